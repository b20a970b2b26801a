theorem dX11_can_48 : decode cX11_can 48 = .ok (.invokevirtual 65, 3) := by decide +kernel
theorem dX11_can_51 : decode cX11_can 51 = .ok (.ireturn, 1) := by decide +kernel
theorem dX11_can_52 : decode cX11_can 52 = .ok (.iload_n 2, 1) := by decide +kernel
theorem dX11_can_53 : decode cX11_can 53 = .ok (.ifCond .eq 7, 3) := by decide +kernel
theorem dX11_can_56 : decode cX11_can 56 = .ok (.iconst 1, 1) := by decide +kernel
theorem dX11_can_57 : decode cX11_can 57 = .ok (.goto 4, 3) := by decide +kernel
theorem dX11_can_60 : decode cX11_can 60 = .ok (.iconst 0, 1) := by decide +kernel
theorem dX11_can_61 : decode cX11_can 61 = .ok (.ireturn, 1) := by decide +kernel
theorem dX11_best_0 : decode cX11_best 0 = .ok (.aload_n 0, 1) := by decide +kernel
theorem dX11_best_1 : decode cX11_best 1 = .ok (.getfield 42, 3) := by decide +kernel
theorem dX11_best_4 : decode cX11_best 4 = .ok (.invokevirtual 264, 3) := by decide +kernel
theorem dX11_best_7 : decode cX11_best 7 = .ok (.aload_n 0, 1) := by decide +kernel
theorem dX11_best_8 : decode cX11_best 8 = .ok (.getfield 42, 3) := by decide +kernel
theorem dX11_best_11 : decode cX11_best 11 = .ok (.invokevirtual 278, 3) := by decide +kernel
theorem dX11_best_14 : decode cX11_best 14 = .ok (.istore_n 1, 1) := by decide +kernel
theorem dX11_best_15 : decode cX11_best 15 = .ok (.aload_n 0, 1) := by decide +kernel
theorem dX11_best_16 : decode cX11_best 16 = .ok (.getfield 42, 3) := by decide +kernel
theorem dX11_best_19 : decode cX11_best 19 = .ok (.getfield 270, 3) := by decide +kernel
theorem dX11_best_22 : decode cX11_best 22 = .ok (.ifCond .eq 13, 3) := by decide +kernel
theorem dX11_best_25 : decode cX11_best 25 = .ok (.aload_n 0, 1) := by decide +kernel
theorem dX11_best_26 : decode cX11_best 26 = .ok (.ldc_w 274, 3) := by decide +kernel
theorem dX11_best_29 : decode cX11_best 29 = .ok (.invokevirtual 65, 3) := by decide +kernel
theorem dX11_best_32 : decode cX11_best 32 = .ok (.goto 4, 3) := by decide +kernel
theorem dX11_best_35 : decode cX11_best 35 = .ok (.iload_n 1, 1) := by decide +kernel
theorem dX11_best_36 : decode cX11_best 36 = .ok (.ireturn, 1) := by decide +kernel
theorem dX11_tries_0 : decode cX11_tries 0 = .ok (.aload_n 0, 1) := by decide +kernel
theorem dX11_tries_1 : decode cX11_tries 1 = .ok (.getfield 42, 3) := by decide +kernel
theorem dX11_tries_4 : decode cX11_tries 4 = .ok (.getfield 282, 3) := by decide +kernel
theorem dX11_tries_7 : decode cX11_tries 7 = .ok (.ireturn, 1) := by decide +kernel
theorem dX11_offer_0 : decode cX11_offer 0 = .ok (.aload_n 0, 1) := by decide +kernel
theorem dX11_offer_1 : decode cX11_offer 1 = .ok (.getfield 19, 3) := by decide +kernel
theorem dX11_offer_4 : decode cX11_offer 4 = .ok (.iload_n 1, 1) := by decide +kernel
theorem dX11_offer_5 : decode cX11_offer 5 = .ok (.invokevirtual 136, 3) := by decide +kernel
theorem dX11_offer_8 : decode cX11_offer 8 = .ok (.ifCond .eq 13, 3) := by decide +kernel
theorem dX11_offer_11 : decode cX11_offer 11 = .ok (.iload_n 2, 1) := by decide +kernel
theorem dX11_offer_12 : decode cX11_offer 12 = .ok (.iconst 1, 1) := by decide +kernel
theorem dX11_offer_13 : decode cX11_offer 13 = .ok (.bipush 100, 2) := by decide +kernel
theorem dX11_offer_15 : decode cX11_offer 15 = .ok (.invokestatic 60, 3) := by decide +kernel
theorem dX11_offer_18 : decode cX11_offer 18 = .ok (.ifCond .ne 10, 3) := by decide +kernel
theorem dX11_offer_21 : decode cX11_offer 21 = .ok (.aload_n 0, 1) := by decide +kernel
theorem dX11_offer_22 : decode cX11_offer 22 = .ok (.ldc 64, 2) := by decide +kernel
theorem dX11_offer_24 : decode cX11_offer 24 = .ok (.invokevirtual 65, 3) := by decide +kernel
theorem dX11_offer_27 : decode cX11_offer 27 = .ok (.ireturn, 1) := by decide +kernel
theorem dX11_offer_28 : decode cX11_offer 28 = .ok (.aload_n 0, 1) := by decide +kernel
theorem dX11_offer_29 : decode cX11_offer 29 = .ok (.getfield 19, 3) := by decide +kernel
theorem dX11_offer_32 : decode cX11_offer 32 = .ok (.iload_n 1, 1) := by decide +kernel
theorem dX11_offer_33 : decode cX11_offer 33 = .ok (.invokevirtual 139, 3) := by decide +kernel
theorem dX11_offer_36 : decode cX11_offer 36 = .ok (.astore_n 3, 1) := by decide +kernel
theorem dX11_offer_37 : decode cX11_offer 37 = .ok (.aload_n 3, 1) := by decide +kernel
theorem dX11_offer_38 : decode cX11_offer 38 = .ok (.getfield 285, 3) := by decide +kernel
theorem dX11_offer_41 : decode cX11_offer 41 = .ok (.iload_n 2, 1) := by decide +kernel
theorem dX11_offer_42 : decode cX11_offer 42 = .ok (.iadd, 1) := by decide +kernel
theorem dX11_offer_43 : decode cX11_offer 43 = .ok (.sipush 1000, 3) := by decide +kernel
theorem dX11_offer_46 : decode cX11_offer 46 = .ok (.if_icmp .le 10, 3) := by decide +kernel
theorem dX11_offer_49 : decode cX11_offer 49 = .ok (.aload_n 0, 1) := by decide +kernel
theorem dX11_offer_50 : decode cX11_offer 50 = .ok (.ldc 73, 2) := by decide +kernel
theorem dX11_offer_52 : decode cX11_offer 52 = .ok (.invokevirtual 65, 3) := by decide +kernel
theorem dX11_offer_55 : decode cX11_offer 55 = .ok (.ireturn, 1) := by decide +kernel
theorem dX11_offer_56 : decode cX11_offer 56 = .ok (.aload_n 3, 1) := by decide +kernel
theorem dX11_offer_57 : decode cX11_offer 57 = .ok (.dup, 1) := by decide +kernel
theorem dX11_offer_58 : decode cX11_offer 58 = .ok (.getfield 285, 3) := by decide +kernel
theorem dX11_offer_61 : decode cX11_offer 61 = .ok (.iload_n 2, 1) := by decide +kernel
theorem dX11_offer_62 : decode cX11_offer 62 = .ok (.iadd, 1) := by decide +kernel
theorem dX11_offer_63 : decode cX11_offer 63 = .ok (.putfield 285, 3) := by decide +kernel
theorem dX11_offer_66 : decode cX11_offer 66 = .ok (.aload_n 3, 1) := by decide +kernel
theorem dX11_offer_67 : decode cX11_offer 67 = .ok (.getfield 285, 3) := by decide +kernel
theorem dX11_offer_70 : decode cX11_offer 70 = .ok (.ireturn, 1) := by decide +kernel
theorem dX11_run_0 : decode cX11_run 0 = .ok (.iload_n 1, 1) := by decide +kernel
theorem dX11_run_1 : decode cX11_run 1 = .ok (.iconst 1, 1) := by decide +kernel
theorem dX11_run_2 : decode cX11_run 2 = .ok (.bipush 24, 2) := by decide +kernel
theorem dX11_run_4 : decode cX11_run 4 = .ok (.invokestatic 60, 3) := by decide +kernel
theorem dX11_run_7 : decode cX11_run 7 = .ok (.ifCond .ne 10, 3) := by decide +kernel
theorem dX11_run_10 : decode cX11_run 10 = .ok (.aload_n 0, 1) := by decide +kernel
theorem dX11_run_11 : decode cX11_run 11 = .ok (.ldc 64, 2) := by decide +kernel
theorem dX11_run_13 : decode cX11_run 13 = .ok (.invokevirtual 65, 3) := by decide +kernel
theorem dX11_run_16 : decode cX11_run 16 = .ok (.ireturn, 1) := by decide +kernel
theorem dX11_run_17 : decode cX11_run 17 = .ok (.aload_n 0, 1) := by decide +kernel
theorem dX11_run_18 : decode cX11_run 18 = .ok (.getfield 49, 3) := by decide +kernel
theorem dX11_run_21 : decode cX11_run 21 = .ok (.getfield 288, 3) := by decide +kernel
theorem dX11_run_24 : decode cX11_run 24 = .ok (.istore_n 2, 1) := by decide +kernel
theorem dX11_run_25 : decode cX11_run 25 = .ok (.iconst 0, 1) := by decide +kernel
theorem dX11_run_26 : decode cX11_run 26 = .ok (.istore_n 3, 1) := by decide +kernel
theorem dX11_run_27 : decode cX11_run 27 = .ok (.iload_n 3, 1) := by decide +kernel
theorem dX11_run_28 : decode cX11_run 28 = .ok (.iload_n 1, 1) := by decide +kernel
theorem dX11_run_29 : decode cX11_run 29 = .ok (.if_icmp .ge 16, 3) := by decide +kernel
theorem dX11_run_32 : decode cX11_run 32 = .ok (.aload_n 0, 1) := by decide +kernel
theorem dX11_run_33 : decode cX11_run 33 = .ok (.getfield 49, 3) := by decide +kernel
theorem dX11_run_36 : decode cX11_run 36 = .ok (.invokevirtual 291, 3) := by decide +kernel
theorem dX11_run_39 : decode cX11_run 39 = .ok (.iinc 3 1, 3) := by decide +kernel
theorem dX11_run_42 : decode cX11_run 42 = .ok (.goto (-15), 3) := by decide +kernel
theorem dX11_run_45 : decode cX11_run 45 = .ok (.aload_n 0, 1) := by decide +kernel
theorem dX11_run_46 : decode cX11_run 46 = .ok (.getfield 49, 3) := by decide +kernel
theorem dX11_run_49 : decode cX11_run 49 = .ok (.getfield 288, 3) := by decide +kernel
theorem dX11_run_52 : decode cX11_run 52 = .ok (.iload_n 2, 1) := by decide +kernel
theorem dX11_run_53 : decode cX11_run 53 = .ok (.isub, 1) := by decide +kernel
theorem dX11_run_54 : decode cX11_run 54 = .ok (.ireturn, 1) := by decide +kernel
theorem dX11_about_0 : decode cX11_about 0 = .ok (.aload_n 0, 1) := by decide +kernel
theorem dX11_about_1 : decode cX11_about 1 = .ok (.getfield 15, 3) := by decide +kernel
theorem dX11_about_4 : decode cX11_about 4 = .ok (.iload_n 1, 1) := by decide +kernel
theorem dX11_about_5 : decode cX11_about 5 = .ok (.invokevirtual 88, 3) := by decide +kernel
theorem dX11_about_8 : decode cX11_about 8 = .ok (.ifCond .eq 13, 3) := by decide +kernel
theorem dX11_about_11 : decode cX11_about 11 = .ok (.iload_n 2, 1) := by decide +kernel
theorem dX11_about_12 : decode cX11_about 12 = .ok (.iconst 0, 1) := by decide +kernel
theorem dX11_about_13 : decode cX11_about 13 = .ok (.bipush 8, 2) := by decide +kernel
theorem dX11_about_15 : decode cX11_about 15 = .ok (.invokestatic 60, 3) := by decide +kernel
theorem dX11_about_18 : decode cX11_about 18 = .ok (.ifCond .ne 10, 3) := by decide +kernel
theorem dX11_about_21 : decode cX11_about 21 = .ok (.aload_n 0, 1) := by decide +kernel
theorem dX11_about_22 : decode cX11_about 22 = .ok (.ldc 64, 2) := by decide +kernel
theorem dX11_about_24 : decode cX11_about 24 = .ok (.invokevirtual 65, 3) := by decide +kernel
theorem dX11_about_27 : decode cX11_about 27 = .ok (.ireturn, 1) := by decide +kernel
theorem dX11_about_28 : decode cX11_about 28 = .ok (.iload_n 2, 1) := by decide +kernel
theorem dX11_about_29 : decode cX11_about 29 = .ok (.iconst 5, 1) := by decide +kernel
theorem dX11_about_30 : decode cX11_about 30 = .ok (.if_icmp .ne 24, 3) := by decide +kernel
theorem dX11_about_33 : decode cX11_about 33 = .ok (.aload_n 0, 1) := by decide +kernel
theorem dX11_about_34 : decode cX11_about 34 = .ok (.getfield 15, 3) := by decide +kernel
theorem dX11_about_37 : decode cX11_about 37 = .ok (.iconst 1, 1) := by decide +kernel
theorem dX11_about_38 : decode cX11_about 38 = .ok (.iload_n 1, 1) := by decide +kernel
theorem dX11_about_39 : decode cX11_about 39 = .ok (.ishl, 1) := by decide +kernel
theorem dX11_about_40 : decode cX11_about 40 = .ok (.invokevirtual 183, 3) := by decide +kernel
theorem dX11_about_43 : decode cX11_about 43 = .ok (.ifCond .eq 7, 3) := by decide +kernel
theorem dX11_about_46 : decode cX11_about 46 = .ok (.iconst 1, 1) := by decide +kernel
theorem dX11_about_47 : decode cX11_about 47 = .ok (.goto 19, 3) := by decide +kernel
theorem dX11_about_50 : decode cX11_about 50 = .ok (.iconst 0, 1) := by decide +kernel
theorem dX11_about_51 : decode cX11_about 51 = .ok (.goto 15, 3) := by decide +kernel
theorem dX11_about_54 : decode cX11_about 54 = .ok (.aload_n 0, 1) := by decide +kernel
theorem dX11_about_55 : decode cX11_about 55 = .ok (.getfield 15, 3) := by decide +kernel
theorem dX11_about_58 : decode cX11_about 58 = .ok (.iload_n 1, 1) := by decide +kernel
theorem dX11_about_59 : decode cX11_about 59 = .ok (.invokevirtual 294, 3) := by decide +kernel
theorem dX11_about_62 : decode cX11_about 62 = .ok (.iload_n 2, 1) := by decide +kernel
theorem dX11_about_63 : decode cX11_about 63 = .ok (.invokevirtual 297, 3) := by decide +kernel
theorem dX11_about_66 : decode cX11_about 66 = .ok (.ireturn, 1) := by decide +kernel
theorem dX11_sheet_0 : decode cX11_sheet 0 = .ok (.iload_n 1, 1) := by decide +kernel
theorem dX11_sheet_1 : decode cX11_sheet 1 = .ok (.invokestatic 302, 3) := by decide +kernel
theorem dX11_sheet_4 : decode cX11_sheet 4 = .ok (.ifCond .eq 25, 3) := by decide +kernel
theorem dX11_sheet_7 : decode cX11_sheet 7 = .ok (.iload_n 2, 1) := by decide +kernel
theorem dX11_sheet_8 : decode cX11_sheet 8 = .ok (.ifCond .eq 28, 3) := by decide +kernel
theorem dX11_sheet_11 : decode cX11_sheet 11 = .ok (.iload_n 2, 1) := by decide +kernel
theorem dX11_sheet_12 : decode cX11_sheet 12 = .ok (.bipush 8, 2) := by decide +kernel
theorem dX11_sheet_14 : decode cX11_sheet 14 = .ok (.if_icmp .eq 22, 3) := by decide +kernel
theorem dX11_sheet_17 : decode cX11_sheet 17 = .ok (.iload_n 2, 1) := by decide +kernel
theorem dX11_sheet_18 : decode cX11_sheet 18 = .ok (.bipush 16, 2) := by decide +kernel
theorem dX11_sheet_20 : decode cX11_sheet 20 = .ok (.if_icmp .eq 16, 3) := by decide +kernel
theorem dX11_sheet_23 : decode cX11_sheet 23 = .ok (.iload_n 2, 1) := by decide +kernel
theorem dX11_sheet_24 : decode cX11_sheet 24 = .ok (.bipush 32, 2) := by decide +kernel
theorem dX11_sheet_26 : decode cX11_sheet 26 = .ok (.if_icmp .eq 10, 3) := by decide +kernel
theorem dX11_sheet_29 : decode cX11_sheet 29 = .ok (.aload_n 0, 1) := by decide +kernel
theorem dX11_sheet_30 : decode cX11_sheet 30 = .ok (.ldc 64, 2) := by decide +kernel
theorem dX11_sheet_32 : decode cX11_sheet 32 = .ok (.invokevirtual 65, 3) := by decide +kernel
theorem dX11_sheet_35 : decode cX11_sheet 35 = .ok (.ireturn, 1) := by decide +kernel
theorem dX11_sheet_36 : decode cX11_sheet 36 = .ok (.iload_n 3, 1) := by decide +kernel
theorem dX11_sheet_37 : decode cX11_sheet 37 = .ok (.ifCond .ge 11, 3) := by decide +kernel
theorem dX11_sheet_40 : decode cX11_sheet 40 = .ok (.aload_n 0, 1) := by decide +kernel
theorem dX11_sheet_41 : decode cX11_sheet 41 = .ok (.ldc_w 305, 3) := by decide +kernel
theorem dX11_sheet_44 : decode cX11_sheet 44 = .ok (.invokevirtual 65, 3) := by decide +kernel
theorem dX11_sheet_47 : decode cX11_sheet 47 = .ok (.ireturn, 1) := by decide +kernel
theorem dX11_sheet_48 : decode cX11_sheet 48 = .ok (.iload_n 3, 1) := by decide +kernel
theorem dX11_sheet_49 : decode cX11_sheet 49 = .ok (.bipush 8, 2) := by decide +kernel
theorem dX11_sheet_51 : decode cX11_sheet 51 = .ok (.if_icmp .le 10, 3) := by decide +kernel
theorem dX11_sheet_54 : decode cX11_sheet 54 = .ok (.aload_n 0, 1) := by decide +kernel
theorem dX11_sheet_55 : decode cX11_sheet 55 = .ok (.ldc 64, 2) := by decide +kernel
theorem dX11_sheet_57 : decode cX11_sheet 57 = .ok (.invokevirtual 65, 3) := by decide +kernel
theorem dX11_sheet_60 : decode cX11_sheet 60 = .ok (.ireturn, 1) := by decide +kernel
theorem dX11_sheet_61 : decode cX11_sheet 61 = .ok (.aload_n 0, 1) := by decide +kernel
theorem dX11_sheet_62 : decode cX11_sheet 62 = .ok (.getfield 56, 3) := by decide +kernel
theorem dX11_sheet_65 : decode cX11_sheet 65 = .ok (.iload_n 1, 1) := by decide +kernel
theorem dX11_sheet_66 : decode cX11_sheet 66 = .ok (.aaload, 1) := by decide +kernel
theorem dX11_sheet_67 : decode cX11_sheet 67 = .ok (.iload_n 2, 1) := by decide +kernel
theorem dX11_sheet_68 : decode cX11_sheet 68 = .ok (.iload_n 3, 1) := by decide +kernel
theorem dX11_sheet_69 : decode cX11_sheet 69 = .ok (.invokevirtual 306, 3) := by decide +kernel
theorem dX11_sheet_72 : decode cX11_sheet 72 = .ok (.ireturn, 1) := by decide +kernel
theorem dX11_write_0 : decode cX11_write 0 = .ok (.iload_n 1, 1) := by decide +kernel
theorem dX11_write_1 : decode cX11_write 1 = .ok (.invokestatic 302, 3) := by decide +kernel
theorem dX11_write_4 : decode cX11_write 4 = .ok (.ifCond .ne 10, 3) := by decide +kernel
theorem dX11_write_7 : decode cX11_write 7 = .ok (.aload_n 0, 1) := by decide +kernel
theorem dX11_write_8 : decode cX11_write 8 = .ok (.ldc 64, 2) := by decide +kernel
theorem dX11_write_10 : decode cX11_write 10 = .ok (.invokevirtual 65, 3) := by decide +kernel
theorem dX11_write_13 : decode cX11_write 13 = .ok (.ireturn, 1) := by decide +kernel
theorem dX11_write_14 : decode cX11_write 14 = .ok (.aload_n 0, 1) := by decide +kernel
theorem dX11_write_15 : decode cX11_write 15 = .ok (.getfield 56, 3) := by decide +kernel
theorem dX11_write_18 : decode cX11_write 18 = .ok (.iload_n 1, 1) := by decide +kernel
theorem dX11_write_19 : decode cX11_write 19 = .ok (.aaload, 1) := by decide +kernel
theorem dX11_write_20 : decode cX11_write 20 = .ok (.invokevirtual 308, 3) := by decide +kernel
theorem dX11_write_23 : decode cX11_write 23 = .ok (.ifCond .eq 11, 3) := by decide +kernel
theorem dX11_write_26 : decode cX11_write 26 = .ok (.aload_n 0, 1) := by decide +kernel
theorem dX11_write_27 : decode cX11_write 27 = .ok (.ldc_w 311, 3) := by decide +kernel
theorem dX11_write_30 : decode cX11_write 30 = .ok (.invokevirtual 65, 3) := by decide +kernel
theorem dX11_write_33 : decode cX11_write 33 = .ok (.ireturn, 1) := by decide +kernel
theorem dX11_write_34 : decode cX11_write 34 = .ok (.iload_n 2, 1) := by decide +kernel
theorem dX11_write_35 : decode cX11_write 35 = .ok (.iconst 0, 1) := by decide +kernel
theorem dX11_write_36 : decode cX11_write 36 = .ok (.aload_n 0, 1) := by decide +kernel
theorem dX11_write_37 : decode cX11_write 37 = .ok (.getfield 56, 3) := by decide +kernel
theorem dX11_write_40 : decode cX11_write 40 = .ok (.iload_n 1, 1) := by decide +kernel
theorem dX11_write_41 : decode cX11_write 41 = .ok (.aaload, 1) := by decide +kernel
theorem dX11_write_42 : decode cX11_write 42 = .ok (.getfield 312, 3) := by decide +kernel
theorem dX11_write_45 : decode cX11_write 45 = .ok (.iconst 1, 1) := by decide +kernel
theorem dX11_write_46 : decode cX11_write 46 = .ok (.isub, 1) := by decide +kernel
theorem dX11_write_47 : decode cX11_write 47 = .ok (.invokestatic 60, 3) := by decide +kernel
theorem dX11_write_50 : decode cX11_write 50 = .ok (.ifCond .eq 17, 3) := by decide +kernel
theorem dX11_write_53 : decode cX11_write 53 = .ok (.aload_n 0, 1) := by decide +kernel
theorem dX11_write_54 : decode cX11_write 54 = .ok (.getfield 56, 3) := by decide +kernel
theorem dX11_write_57 : decode cX11_write 57 = .ok (.iload_n 1, 1) := by decide +kernel
theorem dX11_write_58 : decode cX11_write 58 = .ok (.aaload, 1) := by decide +kernel
theorem dX11_write_59 : decode cX11_write 59 = .ok (.iload_n 2, 1) := by decide +kernel
theorem dX11_write_60 : decode cX11_write 60 = .ok (.iload_n 3, 1) := by decide +kernel
theorem dX11_write_61 : decode cX11_write 61 = .ok (.invokevirtual 313, 3) := by decide +kernel
theorem dX11_write_64 : decode cX11_write 64 = .ok (.goto 9, 3) := by decide +kernel
theorem dX11_write_67 : decode cX11_write 67 = .ok (.aload_n 0, 1) := by decide +kernel
theorem dX11_write_68 : decode cX11_write 68 = .ok (.ldc 64, 2) := by decide +kernel
theorem dX11_write_70 : decode cX11_write 70 = .ok (.invokevirtual 65, 3) := by decide +kernel
theorem dX11_write_73 : decode cX11_write 73 = .ok (.ireturn, 1) := by decide +kernel
theorem dX11_copy_0 : decode cX11_copy 0 = .ok (.iload_n 1, 1) := by decide +kernel
theorem dX11_copy_1 : decode cX11_copy 1 = .ok (.invokestatic 302, 3) := by decide +kernel
theorem dX11_copy_4 : decode cX11_copy 4 = .ok (.ifCond .eq 10, 3) := by decide +kernel
theorem dX11_copy_7 : decode cX11_copy 7 = .ok (.iload_n 3, 1) := by decide +kernel
theorem dX11_copy_8 : decode cX11_copy 8 = .ok (.invokestatic 302, 3) := by decide +kernel
theorem dX11_copy_11 : decode cX11_copy 11 = .ok (.ifCond .ne 10, 3) := by decide +kernel
theorem dX11_copy_14 : decode cX11_copy 14 = .ok (.aload_n 0, 1) := by decide +kernel
theorem dX11_copy_15 : decode cX11_copy 15 = .ok (.ldc 64, 2) := by decide +kernel
theorem dX11_copy_17 : decode cX11_copy 17 = .ok (.invokevirtual 65, 3) := by decide +kernel
theorem dX11_copy_20 : decode cX11_copy 20 = .ok (.ireturn, 1) := by decide +kernel
theorem dX11_copy_21 : decode cX11_copy 21 = .ok (.aload_n 0, 1) := by decide +kernel
theorem dX11_copy_22 : decode cX11_copy 22 = .ok (.getfield 56, 3) := by decide +kernel
theorem dX11_copy_25 : decode cX11_copy 25 = .ok (.iload_n 1, 1) := by decide +kernel
theorem dX11_copy_26 : decode cX11_copy 26 = .ok (.aaload, 1) := by decide +kernel
theorem dX11_copy_27 : decode cX11_copy 27 = .ok (.invokevirtual 308, 3) := by decide +kernel
theorem dX11_copy_30 : decode cX11_copy 30 = .ok (.ifCond .ne 15, 3) := by decide +kernel
theorem dX11_copy_33 : decode cX11_copy 33 = .ok (.aload_n 0, 1) := by decide +kernel
theorem dX11_copy_34 : decode cX11_copy 34 = .ok (.getfield 56, 3) := by decide +kernel
theorem dX11_copy_37 : decode cX11_copy 37 = .ok (.iload_n 3, 1) := by decide +kernel
theorem dX11_copy_38 : decode cX11_copy 38 = .ok (.aaload, 1) := by decide +kernel
theorem dX11_copy_39 : decode cX11_copy 39 = .ok (.invokevirtual 308, 3) := by decide +kernel
theorem dX11_copy_42 : decode cX11_copy 42 = .ok (.ifCond .eq 11, 3) := by decide +kernel
theorem dX11_copy_45 : decode cX11_copy 45 = .ok (.aload_n 0, 1) := by decide +kernel
theorem dX11_copy_46 : decode cX11_copy 46 = .ok (.ldc_w 311, 3) := by decide +kernel
theorem dX11_copy_49 : decode cX11_copy 49 = .ok (.invokevirtual 65, 3) := by decide +kernel
theorem dX11_copy_52 : decode cX11_copy 52 = .ok (.ireturn, 1) := by decide +kernel
theorem dX11_copy_53 : decode cX11_copy 53 = .ok (.aload_n 0, 1) := by decide +kernel
theorem dX11_copy_54 : decode cX11_copy 54 = .ok (.getfield 56, 3) := by decide +kernel
theorem dX11_copy_57 : decode cX11_copy 57 = .ok (.iload_n 1, 1) := by decide +kernel
theorem dX11_copy_58 : decode cX11_copy 58 = .ok (.aaload, 1) := by decide +kernel
theorem dX11_copy_59 : decode cX11_copy 59 = .ok (.getfield 316, 3) := by decide +kernel
theorem dX11_copy_62 : decode cX11_copy 62 = .ok (.aload_n 0, 1) := by decide +kernel
theorem dX11_copy_63 : decode cX11_copy 63 = .ok (.getfield 56, 3) := by decide +kernel
theorem dX11_copy_66 : decode cX11_copy 66 = .ok (.iload_n 3, 1) := by decide +kernel
theorem dX11_copy_67 : decode cX11_copy 67 = .ok (.aaload, 1) := by decide +kernel
theorem dX11_copy_68 : decode cX11_copy 68 = .ok (.getfield 316, 3) := by decide +kernel
theorem dX11_copy_71 : decode cX11_copy 71 = .ok (.if_icmp .eq 10, 3) := by decide +kernel
theorem dX11_copy_74 : decode cX11_copy 74 = .ok (.aload_n 0, 1) := by decide +kernel
theorem dX11_copy_75 : decode cX11_copy 75 = .ok (.ldc 163, 2) := by decide +kernel
theorem dX11_copy_77 : decode cX11_copy 77 = .ok (.invokevirtual 65, 3) := by decide +kernel
theorem dX11_copy_80 : decode cX11_copy 80 = .ok (.ireturn, 1) := by decide +kernel
theorem dX11_copy_81 : decode cX11_copy 81 = .ok (.aload_n 0, 1) := by decide +kernel
theorem dX11_copy_82 : decode cX11_copy 82 = .ok (.getfield 56, 3) := by decide +kernel
theorem dX11_copy_85 : decode cX11_copy 85 = .ok (.iload_n 1, 1) := by decide +kernel
theorem dX11_copy_86 : decode cX11_copy 86 = .ok (.aaload, 1) := by decide +kernel
theorem dX11_copy_87 : decode cX11_copy 87 = .ok (.iload_n 2, 1) := by decide +kernel
theorem dX11_copy_88 : decode cX11_copy 88 = .ok (.iload 5, 2) := by decide +kernel
theorem dX11_copy_90 : decode cX11_copy 90 = .ok (.invokevirtual 319, 3) := by decide +kernel
theorem dX11_copy_93 : decode cX11_copy 93 = .ok (.ifCond .eq 19, 3) := by decide +kernel
theorem dX11_copy_96 : decode cX11_copy 96 = .ok (.aload_n 0, 1) := by decide +kernel
theorem dX11_copy_97 : decode cX11_copy 97 = .ok (.getfield 56, 3) := by decide +kernel
theorem dX11_copy_100 : decode cX11_copy 100 = .ok (.iload_n 3, 1) := by decide +kernel
theorem dX11_copy_101 : decode cX11_copy 101 = .ok (.aaload, 1) := by decide +kernel
theorem dX11_copy_102 : decode cX11_copy 102 = .ok (.iload 4, 2) := by decide +kernel
theorem dX11_copy_104 : decode cX11_copy 104 = .ok (.iload 5, 2) := by decide +kernel
theorem dX11_copy_106 : decode cX11_copy 106 = .ok (.invokevirtual 319, 3) := by decide +kernel
theorem dX11_copy_109 : decode cX11_copy 109 = .ok (.ifCond .ne 10, 3) := by decide +kernel
theorem dX11_copy_112 : decode cX11_copy 112 = .ok (.aload_n 0, 1) := by decide +kernel
theorem dX11_copy_113 : decode cX11_copy 113 = .ok (.ldc 64, 2) := by decide +kernel
theorem dX11_copy_115 : decode cX11_copy 115 = .ok (.invokevirtual 65, 3) := by decide +kernel
theorem dX11_copy_118 : decode cX11_copy 118 = .ok (.ireturn, 1) := by decide +kernel
theorem dX11_copy_119 : decode cX11_copy 119 = .ok (.aload_n 0, 1) := by decide +kernel
theorem dX11_copy_120 : decode cX11_copy 120 = .ok (.getfield 56, 3) := by decide +kernel
theorem dX11_copy_123 : decode cX11_copy 123 = .ok (.iload_n 1, 1) := by decide +kernel
theorem dX11_copy_124 : decode cX11_copy 124 = .ok (.aaload, 1) := by decide +kernel
theorem dX11_copy_125 : decode cX11_copy 125 = .ok (.getfield 322, 3) := by decide +kernel
theorem dX11_copy_128 : decode cX11_copy 128 = .ok (.iload_n 2, 1) := by decide +kernel
theorem dX11_copy_129 : decode cX11_copy 129 = .ok (.aload_n 0, 1) := by decide +kernel
theorem dX11_copy_130 : decode cX11_copy 130 = .ok (.getfield 56, 3) := by decide +kernel
theorem dX11_copy_133 : decode cX11_copy 133 = .ok (.iload_n 3, 1) := by decide +kernel
theorem dX11_copy_134 : decode cX11_copy 134 = .ok (.aaload, 1) := by decide +kernel
theorem dX11_copy_135 : decode cX11_copy 135 = .ok (.getfield 322, 3) := by decide +kernel
theorem dX11_copy_138 : decode cX11_copy 138 = .ok (.iload 4, 2) := by decide +kernel
theorem dX11_copy_140 : decode cX11_copy 140 = .ok (.iload 5, 2) := by decide +kernel
theorem dX11_copy_142 : decode cX11_copy 142 = .ok (.invokestatic 326, 3) := by decide +kernel
theorem dX11_copy_145 : decode cX11_copy 145 = .ok (.iload 5, 2) := by decide +kernel
theorem dX11_copy_147 : decode cX11_copy 147 = .ok (.ireturn, 1) := by decide +kernel
theorem dX11_read_0 : decode cX11_read 0 = .ok (.iload_n 1, 1) := by decide +kernel
theorem dX11_read_1 : decode cX11_read 1 = .ok (.invokestatic 302, 3) := by decide +kernel
theorem dX11_read_4 : decode cX11_read 4 = .ok (.ifCond .ne 10, 3) := by decide +kernel
theorem dX11_read_7 : decode cX11_read 7 = .ok (.aload_n 0, 1) := by decide +kernel
theorem dX11_read_8 : decode cX11_read 8 = .ok (.ldc 64, 2) := by decide +kernel
theorem dX11_read_10 : decode cX11_read 10 = .ok (.invokevirtual 65, 3) := by decide +kernel
theorem dX11_read_13 : decode cX11_read 13 = .ok (.ireturn, 1) := by decide +kernel
theorem dX11_read_14 : decode cX11_read 14 = .ok (.aload_n 0, 1) := by decide +kernel
theorem dX11_read_15 : decode cX11_read 15 = .ok (.getfield 56, 3) := by decide +kernel
theorem dX11_read_18 : decode cX11_read 18 = .ok (.iload_n 1, 1) := by decide +kernel
theorem dX11_read_19 : decode cX11_read 19 = .ok (.aaload, 1) := by decide +kernel
theorem dX11_read_20 : decode cX11_read 20 = .ok (.astore_n 2, 1) := by decide +kernel
theorem dX11_read_21 : decode cX11_read 21 = .ok (.aload_n 2, 1) := by decide +kernel
theorem dX11_read_22 : decode cX11_read 22 = .ok (.invokevirtual 308, 3) := by decide +kernel
theorem dX11_read_25 : decode cX11_read 25 = .ok (.ifCond .eq 11, 3) := by decide +kernel
theorem dX11_read_28 : decode cX11_read 28 = .ok (.aload_n 0, 1) := by decide +kernel
theorem dX11_read_29 : decode cX11_read 29 = .ok (.ldc_w 311, 3) := by decide +kernel
theorem dX11_read_32 : decode cX11_read 32 = .ok (.invokevirtual 65, 3) := by decide +kernel
theorem dX11_read_35 : decode cX11_read 35 = .ok (.ireturn, 1) := by decide +kernel
theorem dX11_read_36 : decode cX11_read 36 = .ok (.aload_n 2, 1) := by decide +kernel
theorem dX11_read_37 : decode cX11_read 37 = .ok (.getfield 312, 3) := by decide +kernel
theorem dX11_read_40 : decode cX11_read 40 = .ok (.aload_n 0, 1) := by decide +kernel
theorem dX11_read_41 : decode cX11_read 41 = .ok (.getfield 19, 3) := by decide +kernel
theorem dX11_read_44 : decode cX11_read 44 = .ok (.getfield 132, 3) := by decide +kernel
theorem dX11_read_47 : decode cX11_read 47 = .ok (.if_icmp .gt 12, 3) := by decide +kernel
theorem dX11_read_50 : decode cX11_read 50 = .ok (.aload_n 2, 1) := by decide +kernel
theorem dX11_read_51 : decode cX11_read 51 = .ok (.bipush 100, 2) := by decide +kernel
theorem dX11_read_53 : decode cX11_read 53 = .ok (.invokevirtual 332, 3) := by decide +kernel
theorem dX11_read_56 : decode cX11_read 56 = .ok (.ifCond .eq 10, 3) := by decide +kernel
theorem dX11_read_59 : decode cX11_read 59 = .ok (.aload_n 0, 1) := by decide +kernel
theorem dX11_read_60 : decode cX11_read 60 = .ok (.ldc 64, 2) := by decide +kernel
theorem dX11_read_62 : decode cX11_read 62 = .ok (.invokevirtual 65, 3) := by decide +kernel
theorem dX11_read_65 : decode cX11_read 65 = .ok (.ireturn, 1) := by decide +kernel
theorem dX11_read_66 : decode cX11_read 66 = .ok (.aload_n 0, 1) := by decide +kernel
theorem dX11_read_67 : decode cX11_read 67 = .ok (.getfield 19, 3) := by decide +kernel
theorem dX11_read_70 : decode cX11_read 70 = .ok (.aload_n 2, 1) := by decide +kernel
theorem dX11_read_71 : decode cX11_read 71 = .ok (.invokevirtual 335, 3) := by decide +kernel
theorem dX11_read_74 : decode cX11_read 74 = .ok (.ifCond .eq 12, 3) := by decide +kernel
theorem dX11_read_77 : decode cX11_read 77 = .ok (.aload_n 0, 1) := by decide +kernel
theorem dX11_read_78 : decode cX11_read 78 = .ok (.ldc 73, 2) := by decide +kernel
theorem dX11_read_80 : decode cX11_read 80 = .ok (.invokevirtual 65, 3) := by decide +kernel
theorem dX11_read_83 : decode cX11_read 83 = .ok (.goto 11, 3) := by decide +kernel
theorem dX11_read_86 : decode cX11_read 86 = .ok (.aload_n 0, 1) := by decide +kernel
theorem dX11_read_87 : decode cX11_read 87 = .ok (.getfield 19, 3) := by decide +kernel
theorem dX11_read_90 : decode cX11_read 90 = .ok (.aload_n 2, 1) := by decide +kernel
theorem dX11_read_91 : decode cX11_read 91 = .ok (.invokevirtual 339, 3) := by decide +kernel
theorem dX11_read_94 : decode cX11_read 94 = .ok (.ireturn, 1) := by decide +kernel
theorem dX11_told_0 : decode cX11_told 0 = .ok (.iload_n 1, 1) := by decide +kernel
theorem dX11_told_1 : decode cX11_told 1 = .ok (.tableswitch 108 0 7 #[47, 55, 63, 71, 79, 87, 92, 100], 47) := by decide +kernel
theorem dX11_told_48 : decode cX11_told 48 = .ok (.aload_n 0, 1) := by decide +kernel
theorem dX11_told_49 : decode cX11_told 49 = .ok (.getfield 15, 3) := by decide +kernel
theorem dX11_told_52 : decode cX11_told 52 = .ok (.getfield 69, 3) := by decide +kernel
theorem dX11_told_55 : decode cX11_told 55 = .ok (.ireturn, 1) := by decide +kernel
theorem dX11_told_56 : decode cX11_told 56 = .ok (.aload_n 0, 1) := by decide +kernel
theorem dX11_told_57 : decode cX11_told 57 = .ok (.getfield 15, 3) := by decide +kernel
theorem dX11_told_60 : decode cX11_told 60 = .ok (.getfield 81, 3) := by decide +kernel
theorem dX11_told_63 : decode cX11_told 63 = .ok (.ireturn, 1) := by decide +kernel
theorem dX11_told_64 : decode cX11_told 64 = .ok (.aload_n 0, 1) := by decide +kernel
theorem dX11_told_65 : decode cX11_told 65 = .ok (.getfield 19, 3) := by decide +kernel
theorem dX11_told_68 : decode cX11_told 68 = .ok (.getfield 132, 3) := by decide +kernel
theorem dX11_told_71 : decode cX11_told 71 = .ok (.ireturn, 1) := by decide +kernel
theorem dX11_told_72 : decode cX11_told 72 = .ok (.aload_n 0, 1) := by decide +kernel
theorem dX11_told_73 : decode cX11_told 73 = .ok (.getfield 19, 3) := by decide +kernel
theorem dX11_told_76 : decode cX11_told 76 = .ok (.invokevirtual 343, 3) := by decide +kernel
theorem dX11_told_79 : decode cX11_told 79 = .ok (.ireturn, 1) := by decide +kernel
theorem dX11_told_80 : decode cX11_told 80 = .ok (.aload_n 0, 1) := by decide +kernel
theorem dX11_told_81 : decode cX11_told 81 = .ok (.getfield 49, 3) := by decide +kernel
theorem dX11_told_84 : decode cX11_told 84 = .ok (.getfield 346, 3) := by decide +kernel
theorem dX11_told_87 : decode cX11_told 87 = .ok (.ireturn, 1) := by decide +kernel
theorem dX11_told_88 : decode cX11_told 88 = .ok (.aload_n 0, 1) := by decide +kernel
theorem dX11_told_89 : decode cX11_told 89 = .ok (.getfield 349, 3) := by decide +kernel
theorem dX11_told_92 : decode cX11_told 92 = .ok (.ireturn, 1) := by decide +kernel
theorem dX11_told_93 : decode cX11_told 93 = .ok (.aload_n 0, 1) := by decide +kernel
theorem dX11_told_94 : decode cX11_told 94 = .ok (.getfield 49, 3) := by decide +kernel
theorem dX11_told_97 : decode cX11_told 97 = .ok (.getfield 288, 3) := by decide +kernel
theorem dX11_told_100 : decode cX11_told 100 = .ok (.ireturn, 1) := by decide +kernel
theorem dX11_told_101 : decode cX11_told 101 = .ok (.aload_n 0, 1) := by decide +kernel
theorem dX11_told_102 : decode cX11_told 102 = .ok (.getfield 49, 3) := by decide +kernel
theorem dX11_told_105 : decode cX11_told 105 = .ok (.getfield 352, 3) := by decide +kernel
theorem dX11_told_108 : decode cX11_told 108 = .ok (.ireturn, 1) := by decide +kernel
theorem dX11_told_109 : decode cX11_told 109 = .ok (.aload_n 0, 1) := by decide +kernel
theorem dX11_told_110 : decode cX11_told 110 = .ok (.ldc 64, 2) := by decide +kernel
theorem dX11_told_112 : decode cX11_told 112 = .ok (.invokevirtual 65, 3) := by decide +kernel
theorem dX11_told_115 : decode cX11_told 115 = .ok (.ireturn, 1) := by decide +kernel
theorem dX11_finding_0 : decode cX11_finding 0 = .ok (.aload_n 0, 1) := by decide +kernel
theorem dX11_finding_1 : decode cX11_finding 1 = .ok (.dup, 1) := by decide +kernel
theorem dX11_finding_2 : decode cX11_finding 2 = .ok (.getfield 349, 3) := by decide +kernel
theorem dX11_finding_5 : decode cX11_finding 5 = .ok (.iconst 1, 1) := by decide +kernel
theorem dX11_finding_6 : decode cX11_finding 6 = .ok (.iadd, 1) := by decide +kernel
theorem dX11_finding_7 : decode cX11_finding 7 = .ok (.putfield 349, 3) := by decide +kernel
theorem dX11_finding_10 : decode cX11_finding 10 = .ok (.iload_n 1, 1) := by decide +kernel
theorem dX11_finding_11 : decode cX11_finding 11 = .ok (.ireturn, 1) := by decide +kernel
theorem dX11_comeIn_0 : decode cX11_comeIn 0 = .ok (.aload_n 1, 1) := by decide +kernel
theorem dX11_comeIn_1 : decode cX11_comeIn 1 = .ok (.iload_n 2, 1) := by decide +kernel
theorem dX11_comeIn_2 : decode cX11_comeIn 2 = .ok (.putfield 218, 3) := by decide +kernel
theorem dX11_comeIn_5 : decode cX11_comeIn 5 = .ok (.aload_n 0, 1) := by decide +kernel
theorem dX11_comeIn_6 : decode cX11_comeIn 6 = .ok (.getfield 26, 3) := by decide +kernel
theorem dX11_comeIn_9 : decode cX11_comeIn 9 = .ok (.aload_n 0, 1) := by decide +kernel
theorem dX11_comeIn_10 : decode cX11_comeIn 10 = .ok (.getfield 15, 3) := by decide +kernel
theorem dX11_comeIn_13 : decode cX11_comeIn 13 = .ok (.aload_n 1, 1) := by decide +kernel
theorem dX11_comeIn_14 : decode cX11_comeIn 14 = .ok (.iload_n 2, 1) := by decide +kernel
theorem dX11_comeIn_15 : decode cX11_comeIn 15 = .ok (.aload_n 1, 1) := by decide +kernel
theorem dX11_comeIn_16 : decode cX11_comeIn 16 = .ok (.getfield 186, 3) := by decide +kernel
theorem dX11_comeIn_19 : decode cX11_comeIn 19 = .ok (.iconst 1, 1) := by decide +kernel
theorem dX11_comeIn_20 : decode cX11_comeIn 20 = .ok (.invokevirtual 355, 3) := by decide +kernel
theorem dX11_comeIn_23 : decode cX11_comeIn 23 = .ok (.return_, 1) := by decide +kernel
theorem dX11_goOut_0 : decode cX11_goOut 0 = .ok (.aload_n 0, 1) := by decide +kernel
theorem dX11_goOut_1 : decode cX11_goOut 1 = .ok (.getfield 26, 3) := by decide +kernel
theorem dX11_goOut_4 : decode cX11_goOut 4 = .ok (.aload_n 0, 1) := by decide +kernel
theorem dX11_goOut_5 : decode cX11_goOut 5 = .ok (.getfield 15, 3) := by decide +kernel
theorem dX11_goOut_8 : decode cX11_goOut 8 = .ok (.aload_n 1, 1) := by decide +kernel
theorem dX11_goOut_9 : decode cX11_goOut 9 = .ok (.aload_n 1, 1) := by decide +kernel
theorem dX11_goOut_10 : decode cX11_goOut 10 = .ok (.getfield 218, 3) := by decide +kernel
theorem dX11_goOut_13 : decode cX11_goOut 13 = .ok (.aload_n 1, 1) := by decide +kernel
theorem dX11_goOut_14 : decode cX11_goOut 14 = .ok (.getfield 186, 3) := by decide +kernel
theorem dX11_goOut_17 : decode cX11_goOut 17 = .ok (.iconst (-1), 1) := by decide +kernel
theorem dX11_goOut_18 : decode cX11_goOut 18 = .ok (.invokevirtual 355, 3) := by decide +kernel
theorem dX11_goOut_21 : decode cX11_goOut 21 = .ok (.aload_n 1, 1) := by decide +kernel
theorem dX11_goOut_22 : decode cX11_goOut 22 = .ok (.iconst 0, 1) := by decide +kernel
theorem dX11_goOut_23 : decode cX11_goOut 23 = .ok (.putfield 218, 3) := by decide +kernel
theorem dX11_goOut_26 : decode cX11_goOut 26 = .ok (.return_, 1) := by decide +kernel
theorem dX11_whyNoRoom_0 : decode cX11_whyNoRoom 0 = .ok (.iconst 3, 1) := by decide +kernel
theorem dX11_whyNoRoom_1 : decode cX11_whyNoRoom 1 = .ok (.istore_n 3, 1) := by decide +kernel
theorem dX11_whyNoRoom_2 : decode cX11_whyNoRoom 2 = .ok (.iconst 0, 1) := by decide +kernel
theorem dX11_whyNoRoom_3 : decode cX11_whyNoRoom 3 = .ok (.istore 4, 2) := by decide +kernel
theorem dX11_whyNoRoom_5 : decode cX11_whyNoRoom 5 = .ok (.iload 4, 2) := by decide +kernel
theorem dX11_whyNoRoom_7 : decode cX11_whyNoRoom 7 = .ok (.aload_n 2, 1) := by decide +kernel
theorem dX11_whyNoRoom_8 : decode cX11_whyNoRoom 8 = .ok (.getfield 204, 3) := by decide +kernel
theorem dX11_whyNoRoom_11 : decode cX11_whyNoRoom 11 = .ok (.if_icmp .ge 63, 3) := by decide +kernel
theorem dX11_whyNoRoom_14 : decode cX11_whyNoRoom 14 = .ok (.aload_n 2, 1) := by decide +kernel
theorem dX11_whyNoRoom_15 : decode cX11_whyNoRoom 15 = .ok (.iload 4, 2) := by decide +kernel
theorem dX11_whyNoRoom_17 : decode cX11_whyNoRoom 17 = .ok (.invokevirtual 359, 3) := by decide +kernel
theorem dX11_whyNoRoom_20 : decode cX11_whyNoRoom 20 = .ok (.istore 5, 2) := by decide +kernel
theorem dX11_whyNoRoom_22 : decode cX11_whyNoRoom 22 = .ok (.aload_n 0, 1) := by decide +kernel
theorem dX11_whyNoRoom_23 : decode cX11_whyNoRoom 23 = .ok (.getfield 26, 3) := by decide +kernel
theorem dX11_whyNoRoom_26 : decode cX11_whyNoRoom 26 = .ok (.aload_n 0, 1) := by decide +kernel
theorem dX11_whyNoRoom_27 : decode cX11_whyNoRoom 27 = .ok (.getfield 15, 3) := by decide +kernel
theorem dX11_whyNoRoom_30 : decode cX11_whyNoRoom 30 = .ok (.aload_n 1, 1) := by decide +kernel
theorem dX11_whyNoRoom_31 : decode cX11_whyNoRoom 31 = .ok (.iload 5, 2) := by decide +kernel
theorem dX11_whyNoRoom_33 : decode cX11_whyNoRoom 33 = .ok (.aload_n 1, 1) := by decide +kernel
theorem dX11_whyNoRoom_34 : decode cX11_whyNoRoom 34 = .ok (.getfield 186, 3) := by decide +kernel
theorem dX11_whyNoRoom_37 : decode cX11_whyNoRoom 37 = .ok (.invokevirtual 189, 3) := by decide +kernel
theorem dX11_whyNoRoom_40 : decode cX11_whyNoRoom 40 = .ok (.ifCond .eq 28, 3) := by decide +kernel
theorem dX11_whyNoRoom_43 : decode cX11_whyNoRoom 43 = .ok (.iconst 4, 1) := by decide +kernel
theorem dX11_whyNoRoom_44 : decode cX11_whyNoRoom 44 = .ok (.istore_n 3, 1) := by decide +kernel
theorem dX11_whyNoRoom_45 : decode cX11_whyNoRoom 45 = .ok (.aload_n 0, 1) := by decide +kernel
theorem dX11_whyNoRoom_46 : decode cX11_whyNoRoom 46 = .ok (.getfield 26, 3) := by decide +kernel
theorem dX11_whyNoRoom_49 : decode cX11_whyNoRoom 49 = .ok (.aload_n 0, 1) := by decide +kernel
theorem dX11_whyNoRoom_50 : decode cX11_whyNoRoom 50 = .ok (.getfield 15, 3) := by decide +kernel
theorem dX11_whyNoRoom_53 : decode cX11_whyNoRoom 53 = .ok (.aload_n 1, 1) := by decide +kernel
theorem dX11_whyNoRoom_54 : decode cX11_whyNoRoom 54 = .ok (.iload 5, 2) := by decide +kernel
theorem dX11_whyNoRoom_56 : decode cX11_whyNoRoom 56 = .ok (.aload_n 1, 1) := by decide +kernel
theorem dX11_whyNoRoom_57 : decode cX11_whyNoRoom 57 = .ok (.getfield 186, 3) := by decide +kernel
theorem dX11_whyNoRoom_60 : decode cX11_whyNoRoom 60 = .ok (.invokevirtual 193, 3) := by decide +kernel
theorem dX11_whyNoRoom_63 : decode cX11_whyNoRoom 63 = .ok (.ifCond .eq 5, 3) := by decide +kernel
theorem dX11_whyNoRoom_66 : decode cX11_whyNoRoom 66 = .ok (.iconst 0, 1) := by decide +kernel
theorem dX11_whyNoRoom_67 : decode cX11_whyNoRoom 67 = .ok (.ireturn, 1) := by decide +kernel
theorem dX11_whyNoRoom_68 : decode cX11_whyNoRoom 68 = .ok (.iinc 4 1, 3) := by decide +kernel
theorem dX11_whyNoRoom_71 : decode cX11_whyNoRoom 71 = .ok (.goto (-66), 3) := by decide +kernel
theorem dX11_whyNoRoom_74 : decode cX11_whyNoRoom 74 = .ok (.iload_n 3, 1) := by decide +kernel
theorem dX11_whyNoRoom_75 : decode cX11_whyNoRoom 75 = .ok (.ireturn, 1) := by decide +kernel
theorem dX11_takeOver_0 : decode cX11_takeOver 0 = .ok (.iconst 0, 1) := by decide +kernel
theorem dX11_takeOver_1 : decode cX11_takeOver 1 = .ok (.istore_n 2, 1) := by decide +kernel
theorem dX11_takeOver_2 : decode cX11_takeOver 2 = .ok (.iconst 0, 1) := by decide +kernel
theorem dX11_takeOver_3 : decode cX11_takeOver 3 = .ok (.istore_n 3, 1) := by decide +kernel
theorem dX11_takeOver_4 : decode cX11_takeOver 4 = .ok (.iload_n 3, 1) := by decide +kernel
theorem dX11_takeOver_5 : decode cX11_takeOver 5 = .ok (.aload_n 0, 1) := by decide +kernel
theorem dX11_takeOver_6 : decode cX11_takeOver 6 = .ok (.getfield 19, 3) := by decide +kernel
theorem dX11_takeOver_9 : decode cX11_takeOver 9 = .ok (.getfield 132, 3) := by decide +kernel
theorem dX11_takeOver_12 : decode cX11_takeOver 12 = .ok (.if_icmp .ge 73, 3) := by decide +kernel
theorem dX11_takeOver_15 : decode cX11_takeOver 15 = .ok (.aload_n 0, 1) := by decide +kernel
theorem dX11_takeOver_16 : decode cX11_takeOver 16 = .ok (.getfield 19, 3) := by decide +kernel
theorem dX11_takeOver_19 : decode cX11_takeOver 19 = .ok (.iload_n 3, 1) := by decide +kernel
theorem dX11_takeOver_20 : decode cX11_takeOver 20 = .ok (.invokevirtual 139, 3) := by decide +kernel
theorem dX11_takeOver_23 : decode cX11_takeOver 23 = .ok (.astore 4, 2) := by decide +kernel
theorem dX11_takeOver_25 : decode cX11_takeOver 25 = .ok (.aload 4, 2) := by decide +kernel
theorem dX11_takeOver_27 : decode cX11_takeOver 27 = .ok (.invokevirtual 148, 3) := by decide +kernel
theorem dX11_takeOver_30 : decode cX11_takeOver 30 = .ok (.ifCond .eq 49, 3) := by decide +kernel
theorem dX11_takeOver_33 : decode cX11_takeOver 33 = .ok (.iload_n 1, 1) := by decide +kernel
theorem dX11_takeOver_34 : decode cX11_takeOver 34 = .ok (.iload_n 3, 1) := by decide +kernel
theorem dX11_takeOver_35 : decode cX11_takeOver 35 = .ok (.invokestatic 362, 3) := by decide +kernel
theorem dX11_takeOver_38 : decode cX11_takeOver 38 = .ok (.ifCond .eq 14, 3) := by decide +kernel
theorem dX11_takeOver_41 : decode cX11_takeOver 41 = .ok (.aload_n 0, 1) := by decide +kernel
theorem dX11_takeOver_42 : decode cX11_takeOver 42 = .ok (.getfield 42, 3) := by decide +kernel
theorem dX11_takeOver_45 : decode cX11_takeOver 45 = .ok (.iload_n 3, 1) := by decide +kernel
theorem dX11_takeOver_46 : decode cX11_takeOver 46 = .ok (.invokevirtual 365, 3) := by decide +kernel
theorem dX11_takeOver_49 : decode cX11_takeOver 49 = .ok (.goto 4, 3) := by decide +kernel
theorem dX11_takeOver_52 : decode cX11_takeOver 52 = .ok (.iconst 0, 1) := by decide +kernel
theorem dX11_takeOver_53 : decode cX11_takeOver 53 = .ok (.istore 5, 2) := by decide +kernel
theorem dX11_takeOver_55 : decode cX11_takeOver 55 = .ok (.iload_n 2, 1) := by decide +kernel
theorem dX11_takeOver_56 : decode cX11_takeOver 56 = .ok (.iload 5, 2) := by decide +kernel
theorem dX11_takeOver_58 : decode cX11_takeOver 58 = .ok (.aload 4, 2) := by decide +kernel
theorem dX11_takeOver_60 : decode cX11_takeOver 60 = .ok (.getfield 218, 3) := by decide +kernel
theorem dX11_takeOver_63 : decode cX11_takeOver 63 = .ok (.if_icmp .ne 7, 3) := by decide +kernel
theorem dX11_takeOver_66 : decode cX11_takeOver 66 = .ok (.iconst 0, 1) := by decide +kernel
theorem dX11_takeOver_67 : decode cX11_takeOver 67 = .ok (.goto 4, 3) := by decide +kernel
theorem dX11_takeOver_70 : decode cX11_takeOver 70 = .ok (.iconst 1, 1) := by decide +kernel
theorem dX11_takeOver_71 : decode cX11_takeOver 71 = .ok (.iadd, 1) := by decide +kernel
theorem dX11_takeOver_72 : decode cX11_takeOver 72 = .ok (.istore_n 2, 1) := by decide +kernel
theorem dX11_takeOver_73 : decode cX11_takeOver 73 = .ok (.aload_n 0, 1) := by decide +kernel
theorem dX11_takeOver_74 : decode cX11_takeOver 74 = .ok (.aload 4, 2) := by decide +kernel
theorem dX11_takeOver_76 : decode cX11_takeOver 76 = .ok (.invokevirtual 211, 3) := by decide +kernel
theorem dX11_takeOver_79 : decode cX11_takeOver 79 = .ok (.iinc 3 1, 3) := by decide +kernel
theorem dX11_takeOver_82 : decode cX11_takeOver 82 = .ok (.goto (-78), 3) := by decide +kernel
theorem dX11_takeOver_85 : decode cX11_takeOver 85 = .ok (.iconst 0, 1) := by decide +kernel
theorem dX11_takeOver_86 : decode cX11_takeOver 86 = .ok (.istore_n 3, 1) := by decide +kernel
theorem dX11_takeOver_87 : decode cX11_takeOver 87 = .ok (.iload_n 3, 1) := by decide +kernel
theorem dX11_takeOver_88 : decode cX11_takeOver 88 = .ok (.aload_n 0, 1) := by decide +kernel
theorem dX11_takeOver_89 : decode cX11_takeOver 89 = .ok (.getfield 19, 3) := by decide +kernel
theorem dX11_takeOver_92 : decode cX11_takeOver 92 = .ok (.getfield 132, 3) := by decide +kernel
theorem dX11_takeOver_95 : decode cX11_takeOver 95 = .ok (.if_icmp .ge 37, 3) := by decide +kernel
theorem dX11_takeOver_98 : decode cX11_takeOver 98 = .ok (.iload_n 1, 1) := by decide +kernel
theorem dX11_takeOver_99 : decode cX11_takeOver 99 = .ok (.iload_n 3, 1) := by decide +kernel
theorem dX11_takeOver_100 : decode cX11_takeOver 100 = .ok (.invokestatic 362, 3) := by decide +kernel
theorem dX11_takeOver_103 : decode cX11_takeOver 103 = .ok (.ifCond .eq 23, 3) := by decide +kernel
theorem dX11_takeOver_106 : decode cX11_takeOver 106 = .ok (.aload_n 0, 1) := by decide +kernel
theorem dX11_takeOver_107 : decode cX11_takeOver 107 = .ok (.aload_n 0, 1) := by decide +kernel
theorem dX11_takeOver_108 : decode cX11_takeOver 108 = .ok (.getfield 19, 3) := by decide +kernel
theorem dX11_takeOver_111 : decode cX11_takeOver 111 = .ok (.iload_n 3, 1) := by decide +kernel
theorem dX11_takeOver_112 : decode cX11_takeOver 112 = .ok (.invokevirtual 139, 3) := by decide +kernel
theorem dX11_takeOver_115 : decode cX11_takeOver 115 = .ok (.aload_n 0, 1) := by decide +kernel
theorem dX11_takeOver_116 : decode cX11_takeOver 116 = .ok (.getfield 42, 3) := by decide +kernel
theorem dX11_takeOver_119 : decode cX11_takeOver 119 = .ok (.iload_n 3, 1) := by decide +kernel
theorem dX11_takeOver_120 : decode cX11_takeOver 120 = .ok (.invokevirtual 365, 3) := by decide +kernel
theorem dX11_takeOver_123 : decode cX11_takeOver 123 = .ok (.invokevirtual 196, 3) := by decide +kernel
theorem dX11_takeOver_126 : decode cX11_takeOver 126 = .ok (.iinc 3 1, 3) := by decide +kernel
theorem dX11_takeOver_129 : decode cX11_takeOver 129 = .ok (.goto (-42), 3) := by decide +kernel
theorem dX11_takeOver_132 : decode cX11_takeOver 132 = .ok (.iload_n 2, 1) := by decide +kernel
theorem dX11_takeOver_133 : decode cX11_takeOver 133 = .ok (.ireturn, 1) := by decide +kernel
theorem dX11_isWithin_0 : decode cX11_isWithin 0 = .ok (.iload_n 0, 1) := by decide +kernel
theorem dX11_isWithin_1 : decode cX11_isWithin 1 = .ok (.iload_n 1, 1) := by decide +kernel
theorem dX11_isWithin_2 : decode cX11_isWithin 2 = .ok (.if_icmp .lt 12, 3) := by decide +kernel
theorem dX11_isWithin_5 : decode cX11_isWithin 5 = .ok (.iload_n 0, 1) := by decide +kernel
theorem dX11_isWithin_6 : decode cX11_isWithin 6 = .ok (.iload_n 2, 1) := by decide +kernel
theorem dX11_isWithin_7 : decode cX11_isWithin 7 = .ok (.if_icmp .gt 7, 3) := by decide +kernel
theorem dX11_isWithin_10 : decode cX11_isWithin 10 = .ok (.iconst 1, 1) := by decide +kernel
theorem dX11_isWithin_11 : decode cX11_isWithin 11 = .ok (.goto 4, 3) := by decide +kernel
theorem dX11_isWithin_14 : decode cX11_isWithin 14 = .ok (.iconst 0, 1) := by decide +kernel
theorem dX11_isWithin_15 : decode cX11_isWithin 15 = .ok (.ireturn, 1) := by decide +kernel
theorem dX11_isTick_0 : decode cX11_isTick 0 = .ok (.iload_n 0, 1) := by decide +kernel
theorem dX11_isTick_1 : decode cX11_isTick 1 = .ok (.iconst 0, 1) := by decide +kernel
theorem dX11_isTick_2 : decode cX11_isTick 2 = .ok (.bipush 23, 2) := by decide +kernel
theorem dX11_isTick_4 : decode cX11_isTick 4 = .ok (.invokestatic 60, 3) := by decide +kernel
theorem dX11_isTick_7 : decode cX11_isTick 7 = .ok (.ireturn, 1) := by decide +kernel
theorem dX11_isKind_0 : decode cX11_isKind 0 = .ok (.iload_n 0, 1) := by decide +kernel
theorem dX11_isKind_1 : decode cX11_isKind 1 = .ok (.iconst 0, 1) := by decide +kernel
theorem dX11_isKind_2 : decode cX11_isKind 2 = .ok (.iconst 4, 1) := by decide +kernel
theorem dX11_isKind_3 : decode cX11_isKind 3 = .ok (.invokestatic 60, 3) := by decide +kernel
theorem dX11_isKind_6 : decode cX11_isKind 6 = .ok (.ireturn, 1) := by decide +kernel
theorem dX11_isSheet_0 : decode cX11_isSheet 0 = .ok (.iload_n 0, 1) := by decide +kernel
theorem dX11_isSheet_1 : decode cX11_isSheet 1 = .ok (.iconst 0, 1) := by decide +kernel
theorem dX11_isSheet_2 : decode cX11_isSheet 2 = .ok (.iconst 3, 1) := by decide +kernel
theorem dX11_isSheet_3 : decode cX11_isSheet 3 = .ok (.invokestatic 60, 3) := by decide +kernel
theorem dX11_isSheet_6 : decode cX11_isSheet 6 = .ok (.ireturn, 1) := by decide +kernel
theorem dX11_has_0 : decode cX11_has 0 = .ok (.iload_n 0, 1) := by decide +kernel
theorem dX11_has_1 : decode cX11_has 1 = .ok (.iload_n 1, 1) := by decide +kernel
theorem dX11_has_2 : decode cX11_has 2 = .ok (.ishr, 1) := by decide +kernel
theorem dX11_has_3 : decode cX11_has 3 = .ok (.iconst 1, 1) := by decide +kernel
theorem dX11_has_4 : decode cX11_has 4 = .ok (.iand, 1) := by decide +kernel
theorem dX11_has_5 : decode cX11_has 5 = .ok (.ifCond .eq 7, 3) := by decide +kernel
theorem dX11_has_8 : decode cX11_has 8 = .ok (.iconst 1, 1) := by decide +kernel
theorem dX11_has_9 : decode cX11_has 9 = .ok (.goto 4, 3) := by decide +kernel
theorem dX11_has_12 : decode cX11_has 12 = .ok (.iconst 0, 1) := by decide +kernel
theorem dX11_has_13 : decode cX11_has 13 = .ok (.ireturn, 1) := by decide +kernel
theorem dX11_placeOn_0 : decode cX11_placeOn 0 = .ok (.iload_n 0, 1) := by decide +kernel
theorem dX11_placeOn_1 : decode cX11_placeOn 1 = .ok (.iload_n 1, 1) := by decide +kernel
theorem dX11_placeOn_2 : decode cX11_placeOn 2 = .ok (.bipush 9, 2) := by decide +kernel
theorem dX11_placeOn_4 : decode cX11_placeOn 4 = .ok (.ishl, 1) := by decide +kernel
theorem dX11_placeOn_5 : decode cX11_placeOn 5 = .ok (.ior, 1) := by decide +kernel
theorem dX11_placeOn_6 : decode cX11_placeOn 6 = .ok (.iload_n 2, 1) := by decide +kernel
theorem dX11_placeOn_7 : decode cX11_placeOn 7 = .ok (.bipush 18, 2) := by decide +kernel
theorem dX11_placeOn_9 : decode cX11_placeOn 9 = .ok (.ishl, 1) := by decide +kernel
theorem dX11_placeOn_10 : decode cX11_placeOn 10 = .ok (.ior, 1) := by decide +kernel
theorem dX11_placeOn_11 : decode cX11_placeOn 11 = .ok (.ireturn, 1) := by decide +kernel
theorem dX11_wayIn_0 : decode cX11_wayIn 0 = .ok (.iload_n 0, 1) := by decide +kernel
theorem dX11_wayIn_1 : decode cX11_wayIn 1 = .ok (.sipush 511, 3) := by decide +kernel
theorem dX11_wayIn_4 : decode cX11_wayIn 4 = .ok (.iand, 1) := by decide +kernel
theorem dX11_wayIn_5 : decode cX11_wayIn 5 = .ok (.ireturn, 1) := by decide +kernel
theorem dX11_spareOf_0 : decode cX11_spareOf 0 = .ok (.iload_n 0, 1) := by decide +kernel
theorem dX11_spareOf_1 : decode cX11_spareOf 1 = .ok (.bipush 9, 2) := by decide +kernel
theorem dX11_spareOf_3 : decode cX11_spareOf 3 = .ok (.ishr, 1) := by decide +kernel
theorem dX11_spareOf_4 : decode cX11_spareOf 4 = .ok (.sipush 511, 3) := by decide +kernel
theorem dX11_spareOf_7 : decode cX11_spareOf 7 = .ok (.iand, 1) := by decide +kernel
theorem dX11_spareOf_8 : decode cX11_spareOf 8 = .ok (.ireturn, 1) := by decide +kernel
theorem dX11_linesOf_0 : decode cX11_linesOf 0 = .ok (.iload_n 0, 1) := by decide +kernel
theorem dX11_linesOf_1 : decode cX11_linesOf 1 = .ok (.invokestatic 224, 3) := by decide +kernel
theorem dX11_linesOf_4 : decode cX11_linesOf 4 = .ok (.iload_n 0, 1) := by decide +kernel
theorem dX11_linesOf_5 : decode cX11_linesOf 5 = .ok (.invokestatic 221, 3) := by decide +kernel
theorem dX11_linesOf_8 : decode cX11_linesOf 8 = .ok (.ior, 1) := by decide +kernel
theorem dX11_linesOf_9 : decode cX11_linesOf 9 = .ok (.ireturn, 1) := by decide +kernel
theorem dX11_hostOf_0 : decode cX11_hostOf 0 = .ok (.iload_n 0, 1) := by decide +kernel
theorem dX11_hostOf_1 : decode cX11_hostOf 1 = .ok (.bipush 18, 2) := by decide +kernel
theorem dX11_hostOf_3 : decode cX11_hostOf 3 = .ok (.ishr, 1) := by decide +kernel
theorem dX11_hostOf_4 : decode cX11_hostOf 4 = .ok (.ireturn, 1) := by decide +kernel
theorem dX12_init_0 : decode cX12_init 0 = .ok (.aload_n 0, 1) := by decide +kernel
theorem dX12_init_1 : decode cX12_init 1 = .ok (.invokespecial 1, 3) := by decide +kernel
theorem dX12_init_4 : decode cX12_init 4 = .ok (.aload_n 0, 1) := by decide +kernel
theorem dX12_init_5 : decode cX12_init 5 = .ok (.iconst (-1), 1) := by decide +kernel
theorem dX12_init_6 : decode cX12_init 6 = .ok (.putfield 7, 3) := by decide +kernel
theorem dX12_init_9 : decode cX12_init 9 = .ok (.aload_n 0, 1) := by decide +kernel
theorem dX12_init_10 : decode cX12_init 10 = .ok (.bipush 6, 2) := by decide +kernel
theorem dX12_init_12 : decode cX12_init 12 = .ok (.newarray .int, 2) := by decide +kernel
theorem dX12_init_14 : decode cX12_init 14 = .ok (.putfield 13, 3) := by decide +kernel
theorem dX12_init_17 : decode cX12_init 17 = .ok (.aload_n 0, 1) := by decide +kernel
theorem dX12_init_18 : decode cX12_init 18 = .ok (.bipush 9, 2) := by decide +kernel
theorem dX12_init_20 : decode cX12_init 20 = .ok (.newarray .int, 2) := by decide +kernel
theorem dX12_init_22 : decode cX12_init 22 = .ok (.putfield 17, 3) := by decide +kernel
theorem dX12_init_25 : decode cX12_init 25 = .ok (.aload_n 0, 1) := by decide +kernel
theorem dX12_init_26 : decode cX12_init 26 = .ok (.bipush 9, 2) := by decide +kernel
theorem dX12_init_28 : decode cX12_init 28 = .ok (.newarray .int, 2) := by decide +kernel
theorem dX12_init_30 : decode cX12_init 30 = .ok (.putfield 20, 3) := by decide +kernel
theorem dX12_init_33 : decode cX12_init 33 = .ok (.aload_n 0, 1) := by decide +kernel
theorem dX12_init_34 : decode cX12_init 34 = .ok (.bipush 9, 2) := by decide +kernel
theorem dX12_init_36 : decode cX12_init 36 = .ok (.newarray .int, 2) := by decide +kernel
theorem dX12_init_38 : decode cX12_init 38 = .ok (.putfield 23, 3) := by decide +kernel
theorem dX12_init_41 : decode cX12_init 41 = .ok (.aload_n 0, 1) := by decide +kernel
theorem dX12_init_42 : decode cX12_init 42 = .ok (.bipush 9, 2) := by decide +kernel
theorem dX12_init_44 : decode cX12_init 44 = .ok (.newarray .int, 2) := by decide +kernel
theorem dX12_init_46 : decode cX12_init 46 = .ok (.putfield 26, 3) := by decide +kernel
theorem dX12_init_49 : decode cX12_init 49 = .ok (.aload_n 0, 1) := by decide +kernel
theorem dX12_init_50 : decode cX12_init 50 = .ok (.bipush 9, 2) := by decide +kernel
theorem dX12_init_52 : decode cX12_init 52 = .ok (.newarray .int, 2) := by decide +kernel
theorem dX12_init_54 : decode cX12_init 54 = .ok (.putfield 29, 3) := by decide +kernel
theorem dX12_init_57 : decode cX12_init 57 = .ok (.aload_n 0, 1) := by decide +kernel
theorem dX12_init_58 : decode cX12_init 58 = .ok (.bipush 9, 2) := by decide +kernel
theorem dX12_init_60 : decode cX12_init 60 = .ok (.newarray .int, 2) := by decide +kernel
theorem dX12_init_62 : decode cX12_init 62 = .ok (.putfield 32, 3) := by decide +kernel
theorem dX12_init_65 : decode cX12_init 65 = .ok (.aload_n 0, 1) := by decide +kernel
theorem dX12_init_66 : decode cX12_init 66 = .ok (.bipush 9, 2) := by decide +kernel
theorem dX12_init_68 : decode cX12_init 68 = .ok (.newarray .int, 2) := by decide +kernel
theorem dX12_init_70 : decode cX12_init 70 = .ok (.putfield 35, 3) := by decide +kernel
theorem dX12_init_73 : decode cX12_init 73 = .ok (.aload_n 0, 1) := by decide +kernel
theorem dX12_init_74 : decode cX12_init 74 = .ok (.bipush 9, 2) := by decide +kernel
theorem dX12_init_76 : decode cX12_init 76 = .ok (.newarray .int, 2) := by decide +kernel
theorem dX12_init_78 : decode cX12_init 78 = .ok (.putfield 38, 3) := by decide +kernel
theorem dX12_init_81 : decode cX12_init 81 = .ok (.aload_n 0, 1) := by decide +kernel
theorem dX12_init_82 : decode cX12_init 82 = .ok (.bipush 9, 2) := by decide +kernel
theorem dX12_init_84 : decode cX12_init 84 = .ok (.newarray .boolean, 2) := by decide +kernel
theorem dX12_init_86 : decode cX12_init 86 = .ok (.putfield 41, 3) := by decide +kernel
theorem dX12_init_89 : decode cX12_init 89 = .ok (.aload_n 0, 1) := by decide +kernel
theorem dX12_init_90 : decode cX12_init 90 = .ok (.bipush 8, 2) := by decide +kernel
theorem dX12_init_92 : decode cX12_init 92 = .ok (.newarray .int, 2) := by decide +kernel
theorem dX12_init_94 : decode cX12_init 94 = .ok (.putfield 45, 3) := by decide +kernel
theorem dX12_init_97 : decode cX12_init 97 = .ok (.aload_n 0, 1) := by decide +kernel
theorem dX12_init_98 : decode cX12_init 98 = .ok (.bipush 8, 2) := by decide +kernel
theorem dX12_init_100 : decode cX12_init 100 = .ok (.newarray .int, 2) := by decide +kernel
theorem dX12_init_102 : decode cX12_init 102 = .ok (.putfield 48, 3) := by decide +kernel
theorem dX12_init_105 : decode cX12_init 105 = .ok (.aload_n 0, 1) := by decide +kernel
theorem dX12_init_106 : decode cX12_init 106 = .ok (.bipush 8, 2) := by decide +kernel
theorem dX12_init_108 : decode cX12_init 108 = .ok (.newarray .int, 2) := by decide +kernel
theorem dX12_init_110 : decode cX12_init 110 = .ok (.putfield 51, 3) := by decide +kernel
theorem dX12_init_113 : decode cX12_init 113 = .ok (.aload_n 0, 1) := by decide +kernel
theorem dX12_init_114 : decode cX12_init 114 = .ok (.bipush 8, 2) := by decide +kernel
theorem dX12_init_116 : decode cX12_init 116 = .ok (.newarray .int, 2) := by decide +kernel
theorem dX12_init_118 : decode cX12_init 118 = .ok (.putfield 54, 3) := by decide +kernel
theorem dX12_init_121 : decode cX12_init 121 = .ok (.aload_n 0, 1) := by decide +kernel
theorem dX12_init_122 : decode cX12_init 122 = .ok (.bipush 8, 2) := by decide +kernel
theorem dX12_init_124 : decode cX12_init 124 = .ok (.newarray .int, 2) := by decide +kernel
theorem dX12_init_126 : decode cX12_init 126 = .ok (.putfield 57, 3) := by decide +kernel
theorem dX12_init_129 : decode cX12_init 129 = .ok (.aload_n 0, 1) := by decide +kernel
theorem dX12_init_130 : decode cX12_init 130 = .ok (.bipush 8, 2) := by decide +kernel
theorem dX12_init_132 : decode cX12_init 132 = .ok (.newarray .int, 2) := by decide +kernel
theorem dX12_init_134 : decode cX12_init 134 = .ok (.putfield 60, 3) := by decide +kernel
theorem dX12_init_137 : decode cX12_init 137 = .ok (.aload_n 0, 1) := by decide +kernel
theorem dX12_init_138 : decode cX12_init 138 = .ok (.bipush 8, 2) := by decide +kernel
theorem dX12_init_140 : decode cX12_init 140 = .ok (.newarray .int, 2) := by decide +kernel
theorem dX12_init_142 : decode cX12_init 142 = .ok (.putfield 63, 3) := by decide +kernel
theorem dX12_init_145 : decode cX12_init 145 = .ok (.aload_n 0, 1) := by decide +kernel
theorem dX12_init_146 : decode cX12_init 146 = .ok (.bipush 8, 2) := by decide +kernel
theorem dX12_init_148 : decode cX12_init 148 = .ok (.newarray .int, 2) := by decide +kernel
theorem dX12_init_150 : decode cX12_init 150 = .ok (.putfield 66, 3) := by decide +kernel
theorem dX12_init_153 : decode cX12_init 153 = .ok (.aload_n 0, 1) := by decide +kernel
theorem dX12_init_154 : decode cX12_init 154 = .ok (.bipush 8, 2) := by decide +kernel
theorem dX12_init_156 : decode cX12_init 156 = .ok (.newarray .int, 2) := by decide +kernel
theorem dX12_init_158 : decode cX12_init 158 = .ok (.putfield 69, 3) := by decide +kernel
theorem dX12_init_161 : decode cX12_init 161 = .ok (.aload_n 0, 1) := by decide +kernel
theorem dX12_init_162 : decode cX12_init 162 = .ok (.bipush 8, 2) := by decide +kernel
theorem dX12_init_164 : decode cX12_init 164 = .ok (.newarray .int, 2) := by decide +kernel
theorem dX12_init_166 : decode cX12_init 166 = .ok (.putfield 72, 3) := by decide +kernel
theorem dX12_init_169 : decode cX12_init 169 = .ok (.aload_n 0, 1) := by decide +kernel
theorem dX12_init_170 : decode cX12_init 170 = .ok (.bipush 8, 2) := by decide +kernel
theorem dX12_init_172 : decode cX12_init 172 = .ok (.newarray .int, 2) := by decide +kernel
theorem dX12_init_174 : decode cX12_init 174 = .ok (.putfield 75, 3) := by decide +kernel
theorem dX12_init_177 : decode cX12_init 177 = .ok (.aload_n 0, 1) := by decide +kernel
theorem dX12_init_178 : decode cX12_init 178 = .ok (.bipush 8, 2) := by decide +kernel
theorem dX12_init_180 : decode cX12_init 180 = .ok (.newarray .int, 2) := by decide +kernel
theorem dX12_init_182 : decode cX12_init 182 = .ok (.putfield 78, 3) := by decide +kernel
theorem dX12_init_185 : decode cX12_init 185 = .ok (.aload_n 0, 1) := by decide +kernel
theorem dX12_init_186 : decode cX12_init 186 = .ok (.bipush 8, 2) := by decide +kernel
theorem dX12_init_188 : decode cX12_init 188 = .ok (.newarray .int, 2) := by decide +kernel
theorem dX12_init_190 : decode cX12_init 190 = .ok (.putfield 81, 3) := by decide +kernel
theorem dX12_init_193 : decode cX12_init 193 = .ok (.aload_n 0, 1) := by decide +kernel
theorem dX12_init_194 : decode cX12_init 194 = .ok (.bipush 8, 2) := by decide +kernel
theorem dX12_init_196 : decode cX12_init 196 = .ok (.newarray .int, 2) := by decide +kernel
theorem dX12_init_198 : decode cX12_init 198 = .ok (.putfield 84, 3) := by decide +kernel
theorem dX12_init_201 : decode cX12_init 201 = .ok (.aload_n 0, 1) := by decide +kernel
theorem dX12_init_202 : decode cX12_init 202 = .ok (.bipush 8, 2) := by decide +kernel
theorem dX12_init_204 : decode cX12_init 204 = .ok (.newarray .int, 2) := by decide +kernel
theorem dX12_init_206 : decode cX12_init 206 = .ok (.putfield 87, 3) := by decide +kernel
theorem dX12_init_209 : decode cX12_init 209 = .ok (.aload_n 0, 1) := by decide +kernel
theorem dX12_init_210 : decode cX12_init 210 = .ok (.bipush 8, 2) := by decide +kernel
theorem dX12_init_212 : decode cX12_init 212 = .ok (.newarray .int, 2) := by decide +kernel
theorem dX12_init_214 : decode cX12_init 214 = .ok (.putfield 90, 3) := by decide +kernel
theorem dX12_init_217 : decode cX12_init 217 = .ok (.aload_n 0, 1) := by decide +kernel
theorem dX12_init_218 : decode cX12_init 218 = .ok (.bipush 8, 2) := by decide +kernel
theorem dX12_init_220 : decode cX12_init 220 = .ok (.newarray .boolean, 2) := by decide +kernel
theorem dX12_init_222 : decode cX12_init 222 = .ok (.putfield 93, 3) := by decide +kernel
theorem dX12_init_225 : decode cX12_init 225 = .ok (.aload_n 0, 1) := by decide +kernel
theorem dX12_init_226 : decode cX12_init 226 = .ok (.bipush 8, 2) := by decide +kernel
theorem dX12_init_228 : decode cX12_init 228 = .ok (.newarray .int, 2) := by decide +kernel
theorem dX12_init_230 : decode cX12_init 230 = .ok (.putfield 96, 3) := by decide +kernel
theorem dX12_init_233 : decode cX12_init 233 = .ok (.aload_n 0, 1) := by decide +kernel
theorem dX12_init_234 : decode cX12_init 234 = .ok (.bipush 8, 2) := by decide +kernel
theorem dX12_init_236 : decode cX12_init 236 = .ok (.newarray .int, 2) := by decide +kernel
theorem dX12_init_238 : decode cX12_init 238 = .ok (.putfield 99, 3) := by decide +kernel
theorem dX12_init_241 : decode cX12_init 241 = .ok (.aload_n 0, 1) := by decide +kernel
theorem dX12_init_242 : decode cX12_init 242 = .ok (.bipush 8, 2) := by decide +kernel
theorem dX12_init_244 : decode cX12_init 244 = .ok (.newarray .int, 2) := by decide +kernel
theorem dX12_init_246 : decode cX12_init 246 = .ok (.putfield 102, 3) := by decide +kernel
theorem dX12_init_249 : decode cX12_init 249 = .ok (.aload_n 0, 1) := by decide +kernel
theorem dX12_init_250 : decode cX12_init 250 = .ok (.bipush 8, 2) := by decide +kernel
theorem dX12_init_252 : decode cX12_init 252 = .ok (.newarray .int, 2) := by decide +kernel
theorem dX12_init_254 : decode cX12_init 254 = .ok (.putfield 105, 3) := by decide +kernel
theorem dX12_init_257 : decode cX12_init 257 = .ok (.aload_n 0, 1) := by decide +kernel
theorem dX12_init_258 : decode cX12_init 258 = .ok (.bipush 8, 2) := by decide +kernel
theorem dX12_init_260 : decode cX12_init 260 = .ok (.newarray .int, 2) := by decide +kernel
theorem dX12_init_262 : decode cX12_init 262 = .ok (.putfield 108, 3) := by decide +kernel
theorem dX12_init_265 : decode cX12_init 265 = .ok (.aload_n 0, 1) := by decide +kernel
theorem dX12_init_266 : decode cX12_init 266 = .ok (.iconst 4, 1) := by decide +kernel
theorem dX12_init_267 : decode cX12_init 267 = .ok (.newarray .int, 2) := by decide +kernel
theorem dX12_init_269 : decode cX12_init 269 = .ok (.putfield 111, 3) := by decide +kernel
theorem dX12_init_272 : decode cX12_init 272 = .ok (.aload_n 0, 1) := by decide +kernel
theorem dX12_init_273 : decode cX12_init 273 = .ok (.iconst 4, 1) := by decide +kernel
theorem dX12_init_274 : decode cX12_init 274 = .ok (.newarray .int, 2) := by decide +kernel
theorem dX12_init_276 : decode cX12_init 276 = .ok (.putfield 114, 3) := by decide +kernel
theorem dX12_init_279 : decode cX12_init 279 = .ok (.aload_n 0, 1) := by decide +kernel
theorem dX12_init_280 : decode cX12_init 280 = .ok (.bipush 32, 2) := by decide +kernel
theorem dX12_init_282 : decode cX12_init 282 = .ok (.newarray .int, 2) := by decide +kernel
theorem dX12_init_284 : decode cX12_init 284 = .ok (.putfield 117, 3) := by decide +kernel
theorem dX12_init_287 : decode cX12_init 287 = .ok (.aload_n 0, 1) := by decide +kernel
theorem dX12_init_288 : decode cX12_init 288 = .ok (.bipush 9, 2) := by decide +kernel
theorem dX12_init_290 : decode cX12_init 290 = .ok (.newarray .int, 2) := by decide +kernel
theorem dX12_init_292 : decode cX12_init 292 = .ok (.putfield 120, 3) := by decide +kernel
theorem dX12_init_295 : decode cX12_init 295 = .ok (.aload_n 0, 1) := by decide +kernel
theorem dX12_init_296 : decode cX12_init 296 = .ok (.sipush 2304, 3) := by decide +kernel
theorem dX12_init_299 : decode cX12_init 299 = .ok (.newarray .int, 2) := by decide +kernel
theorem dX12_init_301 : decode cX12_init 301 = .ok (.putfield 123, 3) := by decide +kernel
theorem dX12_init_304 : decode cX12_init 304 = .ok (.aload_n 0, 1) := by decide +kernel
theorem dX12_init_305 : decode cX12_init 305 = .ok (.sipush 2304, 3) := by decide +kernel
theorem dX12_init_308 : decode cX12_init 308 = .ok (.newarray .int, 2) := by decide +kernel
theorem dX12_init_310 : decode cX12_init 310 = .ok (.putfield 126, 3) := by decide +kernel
theorem dX12_init_313 : decode cX12_init 313 = .ok (.aload_n 0, 1) := by decide +kernel
theorem dX12_init_314 : decode cX12_init 314 = .ok (.sipush 2304, 3) := by decide +kernel
theorem dX12_init_317 : decode cX12_init 317 = .ok (.newarray .int, 2) := by decide +kernel
theorem dX12_init_319 : decode cX12_init 319 = .ok (.putfield 129, 3) := by decide +kernel
theorem dX12_init_322 : decode cX12_init 322 = .ok (.aload_n 0, 1) := by decide +kernel
theorem dX12_init_323 : decode cX12_init 323 = .ok (.sipush 2304, 3) := by decide +kernel
theorem dX12_init_326 : decode cX12_init 326 = .ok (.newarray .int, 2) := by decide +kernel
theorem dX12_init_328 : decode cX12_init 328 = .ok (.putfield 132, 3) := by decide +kernel
theorem dX12_init_331 : decode cX12_init 331 = .ok (.aload_n 0, 1) := by decide +kernel
theorem dX12_init_332 : decode cX12_init 332 = .ok (.sipush 2304, 3) := by decide +kernel
theorem dX12_init_335 : decode cX12_init 335 = .ok (.newarray .int, 2) := by decide +kernel
theorem dX12_init_337 : decode cX12_init 337 = .ok (.putfield 135, 3) := by decide +kernel
theorem dX12_init_340 : decode cX12_init 340 = .ok (.aload_n 0, 1) := by decide +kernel
theorem dX12_init_341 : decode cX12_init 341 = .ok (.bipush 6, 2) := by decide +kernel
theorem dX12_init_343 : decode cX12_init 343 = .ok (.newarray .int, 2) := by decide +kernel
theorem dX12_init_345 : decode cX12_init 345 = .ok (.putfield 138, 3) := by decide +kernel
theorem dX12_init_348 : decode cX12_init 348 = .ok (.aload_n 0, 1) := by decide +kernel
theorem dX12_init_349 : decode cX12_init 349 = .ok (.bipush 6, 2) := by decide +kernel
theorem dX12_init_351 : decode cX12_init 351 = .ok (.newarray .int, 2) := by decide +kernel
theorem dX12_init_353 : decode cX12_init 353 = .ok (.putfield 141, 3) := by decide +kernel
theorem dX12_init_356 : decode cX12_init 356 = .ok (.aload_n 0, 1) := by decide +kernel
theorem dX12_init_357 : decode cX12_init 357 = .ok (.bipush 6, 2) := by decide +kernel
theorem dX12_init_359 : decode cX12_init 359 = .ok (.newarray .int, 2) := by decide +kernel
theorem dX12_init_361 : decode cX12_init 361 = .ok (.putfield 144, 3) := by decide +kernel
theorem dX12_init_364 : decode cX12_init 364 = .ok (.aload_n 0, 1) := by decide +kernel
theorem dX12_init_365 : decode cX12_init 365 = .ok (.bipush 8, 2) := by decide +kernel
theorem dX12_init_367 : decode cX12_init 367 = .ok (.newarray .int, 2) := by decide +kernel
theorem dX12_init_369 : decode cX12_init 369 = .ok (.putfield 147, 3) := by decide +kernel
theorem dX12_init_372 : decode cX12_init 372 = .ok (.aload_n 0, 1) := by decide +kernel
theorem dX12_init_373 : decode cX12_init 373 = .ok (.bipush 8, 2) := by decide +kernel
theorem dX12_init_375 : decode cX12_init 375 = .ok (.newarray .int, 2) := by decide +kernel
theorem dX12_init_377 : decode cX12_init 377 = .ok (.putfield 150, 3) := by decide +kernel
theorem dX12_init_380 : decode cX12_init 380 = .ok (.aload_n 0, 1) := by decide +kernel
theorem dX12_init_381 : decode cX12_init 381 = .ok (.bipush 8, 2) := by decide +kernel
theorem dX12_init_383 : decode cX12_init 383 = .ok (.newarray .int, 2) := by decide +kernel
theorem dX12_init_385 : decode cX12_init 385 = .ok (.putfield 153, 3) := by decide +kernel
theorem dX12_init_388 : decode cX12_init 388 = .ok (.aload_n 0, 1) := by decide +kernel
theorem dX12_init_389 : decode cX12_init 389 = .ok (.bipush 8, 2) := by decide +kernel
theorem dX12_init_391 : decode cX12_init 391 = .ok (.newarray .int, 2) := by decide +kernel
theorem dX12_init_393 : decode cX12_init 393 = .ok (.putfield 156, 3) := by decide +kernel
theorem dX12_init_396 : decode cX12_init 396 = .ok (.aload_n 0, 1) := by decide +kernel
theorem dX12_init_397 : decode cX12_init 397 = .ok (.bipush 8, 2) := by decide +kernel
theorem dX12_init_399 : decode cX12_init 399 = .ok (.newarray .boolean, 2) := by decide +kernel
theorem dX12_init_401 : decode cX12_init 401 = .ok (.putfield 159, 3) := by decide +kernel
theorem dX12_init_404 : decode cX12_init 404 = .ok (.aload_n 0, 1) := by decide +kernel
theorem dX12_init_405 : decode cX12_init 405 = .ok (.bipush 8, 2) := by decide +kernel
theorem dX12_init_407 : decode cX12_init 407 = .ok (.newarray .int, 2) := by decide +kernel
theorem dX12_init_409 : decode cX12_init 409 = .ok (.putfield 162, 3) := by decide +kernel
theorem dX12_init_412 : decode cX12_init 412 = .ok (.aload_n 0, 1) := by decide +kernel
theorem dX12_init_413 : decode cX12_init 413 = .ok (.bipush 8, 2) := by decide +kernel
theorem dX12_init_415 : decode cX12_init 415 = .ok (.newarray .int, 2) := by decide +kernel
theorem dX12_init_417 : decode cX12_init 417 = .ok (.putfield 165, 3) := by decide +kernel
theorem dX12_init_420 : decode cX12_init 420 = .ok (.aload_n 0, 1) := by decide +kernel
theorem dX12_init_421 : decode cX12_init 421 = .ok (.bipush 8, 2) := by decide +kernel
theorem dX12_init_423 : decode cX12_init 423 = .ok (.newarray .int, 2) := by decide +kernel
theorem dX12_init_425 : decode cX12_init 425 = .ok (.putfield 168, 3) := by decide +kernel
theorem dX12_init_428 : decode cX12_init 428 = .ok (.aload_n 0, 1) := by decide +kernel
theorem dX12_init_429 : decode cX12_init 429 = .ok (.bipush 8, 2) := by decide +kernel
theorem dX12_init_431 : decode cX12_init 431 = .ok (.newarray .int, 2) := by decide +kernel
theorem dX12_init_433 : decode cX12_init 433 = .ok (.putfield 171, 3) := by decide +kernel
theorem dX12_init_436 : decode cX12_init 436 = .ok (.aload_n 0, 1) := by decide +kernel
theorem dX12_init_437 : decode cX12_init 437 = .ok (.bipush 8, 2) := by decide +kernel
theorem dX12_init_439 : decode cX12_init 439 = .ok (.newarray .int, 2) := by decide +kernel
theorem dX12_init_441 : decode cX12_init 441 = .ok (.putfield 174, 3) := by decide +kernel
theorem dX12_init_444 : decode cX12_init 444 = .ok (.aload_n 0, 1) := by decide +kernel
theorem dX12_init_445 : decode cX12_init 445 = .ok (.sipush 256, 3) := by decide +kernel
theorem dX12_init_448 : decode cX12_init 448 = .ok (.newarray .boolean, 2) := by decide +kernel
theorem dX12_init_450 : decode cX12_init 450 = .ok (.putfield 177, 3) := by decide +kernel
theorem dX12_init_453 : decode cX12_init 453 = .ok (.aload_n 0, 1) := by decide +kernel
theorem dX12_init_454 : decode cX12_init 454 = .ok (.bipush 8, 2) := by decide +kernel
theorem dX12_init_456 : decode cX12_init 456 = .ok (.newarray .int, 2) := by decide +kernel
theorem dX12_init_458 : decode cX12_init 458 = .ok (.putfield 180, 3) := by decide +kernel
theorem dX12_init_461 : decode cX12_init 461 = .ok (.return_, 1) := by decide +kernel
theorem dX12_in_0 : decode cX12_in 0 = .ok (.iload_n 0, 1) := by decide +kernel
theorem dX12_in_1 : decode cX12_in 1 = .ok (.iload_n 1, 1) := by decide +kernel
theorem dX12_in_2 : decode cX12_in 2 = .ok (.if_icmp .lt 12, 3) := by decide +kernel
theorem dX12_in_5 : decode cX12_in 5 = .ok (.iload_n 0, 1) := by decide +kernel
theorem dX12_in_6 : decode cX12_in 6 = .ok (.iload_n 2, 1) := by decide +kernel
theorem dX12_in_7 : decode cX12_in 7 = .ok (.if_icmp .gt 7, 3) := by decide +kernel
theorem dX12_in_10 : decode cX12_in 10 = .ok (.iconst 1, 1) := by decide +kernel
theorem dX12_in_11 : decode cX12_in 11 = .ok (.goto 4, 3) := by decide +kernel
theorem dX12_in_14 : decode cX12_in 14 = .ok (.iconst 0, 1) := by decide +kernel
theorem dX12_in_15 : decode cX12_in 15 = .ok (.ireturn, 1) := by decide +kernel
theorem dX12_finds_0 : decode cX12_finds 0 = .ok (.aload_n 0, 1) := by decide +kernel
theorem dX12_finds_1 : decode cX12_finds 1 = .ok (.dup, 1) := by decide +kernel
theorem dX12_finds_2 : decode cX12_finds 2 = .ok (.getfield 183, 3) := by decide +kernel
theorem dX12_finds_5 : decode cX12_finds 5 = .ok (.iconst 1, 1) := by decide +kernel
theorem dX12_finds_6 : decode cX12_finds 6 = .ok (.iadd, 1) := by decide +kernel
theorem dX12_finds_7 : decode cX12_finds 7 = .ok (.putfield 183, 3) := by decide +kernel
theorem dX12_finds_10 : decode cX12_finds 10 = .ok (.iload_n 1, 1) := by decide +kernel
theorem dX12_finds_11 : decode cX12_finds 11 = .ok (.ireturn, 1) := by decide +kernel
theorem dX12_isNode_0 : decode cX12_isNode 0 = .ok (.iload_n 1, 1) := by decide +kernel
theorem dX12_isNode_1 : decode cX12_isNode 1 = .ok (.iconst 0, 1) := by decide +kernel
theorem dX12_isNode_2 : decode cX12_isNode 2 = .ok (.aload_n 0, 1) := by decide +kernel
theorem dX12_isNode_3 : decode cX12_isNode 3 = .ok (.getfield 186, 3) := by decide +kernel
theorem dX12_isNode_6 : decode cX12_isNode 6 = .ok (.iconst 1, 1) := by decide +kernel
theorem dX12_isNode_7 : decode cX12_isNode 7 = .ok (.isub, 1) := by decide +kernel
theorem dX12_isNode_8 : decode cX12_isNode 8 = .ok (.invokestatic 189, 3) := by decide +kernel
theorem dX12_isNode_11 : decode cX12_isNode 11 = .ok (.ireturn, 1) := by decide +kernel
theorem dX12_isLine_0 : decode cX12_isLine 0 = .ok (.iload_n 1, 1) := by decide +kernel
theorem dX12_isLine_1 : decode cX12_isLine 1 = .ok (.iconst 0, 1) := by decide +kernel
theorem dX12_isLine_2 : decode cX12_isLine 2 = .ok (.aload_n 0, 1) := by decide +kernel
theorem dX12_isLine_3 : decode cX12_isLine 3 = .ok (.getfield 193, 3) := by decide +kernel
theorem dX12_isLine_6 : decode cX12_isLine 6 = .ok (.iconst 1, 1) := by decide +kernel
theorem dX12_isLine_7 : decode cX12_isLine 7 = .ok (.isub, 1) := by decide +kernel
theorem dX12_isLine_8 : decode cX12_isLine 8 = .ok (.invokestatic 189, 3) := by decide +kernel
theorem dX12_isLine_11 : decode cX12_isLine 11 = .ok (.ireturn, 1) := by decide +kernel
theorem dX12_isSlice_0 : decode cX12_isSlice 0 = .ok (.iload_n 1, 1) := by decide +kernel
theorem dX12_isSlice_1 : decode cX12_isSlice 1 = .ok (.iconst 0, 1) := by decide +kernel
theorem dX12_isSlice_2 : decode cX12_isSlice 2 = .ok (.aload_n 0, 1) := by decide +kernel
theorem dX12_isSlice_3 : decode cX12_isSlice 3 = .ok (.getfield 196, 3) := by decide +kernel
theorem dX12_isSlice_6 : decode cX12_isSlice 6 = .ok (.iconst 1, 1) := by decide +kernel
theorem dX12_isSlice_7 : decode cX12_isSlice 7 = .ok (.isub, 1) := by decide +kernel
theorem dX12_isSlice_8 : decode cX12_isSlice 8 = .ok (.invokestatic 189, 3) := by decide +kernel
theorem dX12_isSlice_11 : decode cX12_isSlice 11 = .ok (.ireturn, 1) := by decide +kernel
theorem dX12_isTick_0 : decode cX12_isTick 0 = .ok (.iload_n 0, 1) := by decide +kernel
theorem dX12_isTick_1 : decode cX12_isTick 1 = .ok (.iconst 0, 1) := by decide +kernel
theorem dX12_isTick_2 : decode cX12_isTick 2 = .ok (.bipush 23, 2) := by decide +kernel
theorem dX12_isTick_4 : decode cX12_isTick 4 = .ok (.invokestatic 189, 3) := by decide +kernel
theorem dX12_isTick_7 : decode cX12_isTick 7 = .ok (.ireturn, 1) := by decide +kernel
theorem dX12_has_0 : decode cX12_has 0 = .ok (.iload_n 0, 1) := by decide +kernel
theorem dX12_has_1 : decode cX12_has 1 = .ok (.iload_n 1, 1) := by decide +kernel
theorem dX12_has_2 : decode cX12_has 2 = .ok (.ishr, 1) := by decide +kernel
theorem dX12_has_3 : decode cX12_has 3 = .ok (.iconst 1, 1) := by decide +kernel
theorem dX12_has_4 : decode cX12_has 4 = .ok (.iand, 1) := by decide +kernel
theorem dX12_has_5 : decode cX12_has 5 = .ok (.iconst 1, 1) := by decide +kernel
theorem dX12_has_6 : decode cX12_has 6 = .ok (.if_icmp .ne 7, 3) := by decide +kernel
theorem dX12_has_9 : decode cX12_has 9 = .ok (.iconst 1, 1) := by decide +kernel
theorem dX12_has_10 : decode cX12_has 10 = .ok (.goto 4, 3) := by decide +kernel
theorem dX12_has_13 : decode cX12_has 13 = .ok (.iconst 0, 1) := by decide +kernel
theorem dX12_has_14 : decode cX12_has 14 = .ok (.ireturn, 1) := by decide +kernel
theorem dX12_node_0 : decode cX12_node 0 = .ok (.iload_n 1, 1) := by decide +kernel
theorem dX12_node_1 : decode cX12_node 1 = .ok (.iconst 0, 1) := by decide +kernel
theorem dX12_node_2 : decode cX12_node 2 = .ok (.bipush 100, 2) := by decide +kernel
theorem dX12_node_4 : decode cX12_node 4 = .ok (.invokestatic 189, 3) := by decide +kernel
theorem dX12_node_7 : decode cX12_node 7 = .ok (.ifCond .ne 10, 3) := by decide +kernel
theorem dX12_node_10 : decode cX12_node 10 = .ok (.aload_n 0, 1) := by decide +kernel
theorem dX12_node_11 : decode cX12_node 11 = .ok (.ldc 199, 2) := by decide +kernel
theorem dX12_node_13 : decode cX12_node 13 = .ok (.invokevirtual 200, 3) := by decide +kernel
theorem dX12_node_16 : decode cX12_node 16 = .ok (.ireturn, 1) := by decide +kernel
theorem dX12_node_17 : decode cX12_node 17 = .ok (.aload_n 0, 1) := by decide +kernel
theorem dX12_node_18 : decode cX12_node 18 = .ok (.getfield 186, 3) := by decide +kernel
theorem dX12_node_21 : decode cX12_node 21 = .ok (.bipush 6, 2) := by decide +kernel
theorem dX12_node_23 : decode cX12_node 23 = .ok (.if_icmp .ne 10, 3) := by decide +kernel
theorem dX12_node_26 : decode cX12_node 26 = .ok (.aload_n 0, 1) := by decide +kernel
theorem dX12_node_27 : decode cX12_node 27 = .ok (.ldc 204, 2) := by decide +kernel
theorem dX12_node_29 : decode cX12_node 29 = .ok (.invokevirtual 200, 3) := by decide +kernel
theorem dX12_node_32 : decode cX12_node 32 = .ok (.ireturn, 1) := by decide +kernel
theorem dX12_node_33 : decode cX12_node 33 = .ok (.aload_n 0, 1) := by decide +kernel
theorem dX12_node_34 : decode cX12_node 34 = .ok (.getfield 13, 3) := by decide +kernel
theorem dX12_node_37 : decode cX12_node 37 = .ok (.aload_n 0, 1) := by decide +kernel
theorem dX12_node_38 : decode cX12_node 38 = .ok (.getfield 186, 3) := by decide +kernel
theorem dX12_node_41 : decode cX12_node 41 = .ok (.iload_n 1, 1) := by decide +kernel
theorem dX12_node_42 : decode cX12_node 42 = .ok (.iastore, 1) := by decide +kernel
theorem dX12_node_43 : decode cX12_node 43 = .ok (.aload_n 0, 1) := by decide +kernel
theorem dX12_node_44 : decode cX12_node 44 = .ok (.dup, 1) := by decide +kernel
theorem dX12_node_45 : decode cX12_node 45 = .ok (.getfield 186, 3) := by decide +kernel
theorem dX12_node_48 : decode cX12_node 48 = .ok (.iconst 1, 1) := by decide +kernel
theorem dX12_node_49 : decode cX12_node 49 = .ok (.iadd, 1) := by decide +kernel
theorem dX12_node_50 : decode cX12_node 50 = .ok (.putfield 186, 3) := by decide +kernel
theorem dX12_node_53 : decode cX12_node 53 = .ok (.aload_n 0, 1) := by decide +kernel
theorem dX12_node_54 : decode cX12_node 54 = .ok (.getfield 186, 3) := by decide +kernel
theorem dX12_node_57 : decode cX12_node 57 = .ok (.iconst 1, 1) := by decide +kernel
theorem dX12_node_58 : decode cX12_node 58 = .ok (.isub, 1) := by decide +kernel
theorem dX12_node_59 : decode cX12_node 59 = .ok (.ireturn, 1) := by decide +kernel
theorem dX12_line_0 : decode cX12_line 0 = .ok (.aload_n 0, 1) := by decide +kernel
theorem dX12_line_1 : decode cX12_line 1 = .ok (.iload_n 1, 1) := by decide +kernel
theorem dX12_line_2 : decode cX12_line 2 = .ok (.invokevirtual 205, 3) := by decide +kernel
theorem dX12_line_5 : decode cX12_line 5 = .ok (.ifCond .eq 48, 3) := by decide +kernel
theorem dX12_line_8 : decode cX12_line 8 = .ok (.aload_n 0, 1) := by decide +kernel
theorem dX12_line_9 : decode cX12_line 9 = .ok (.iload_n 2, 1) := by decide +kernel
theorem dX12_line_10 : decode cX12_line 10 = .ok (.invokevirtual 205, 3) := by decide +kernel
theorem dX12_line_13 : decode cX12_line 13 = .ok (.ifCond .eq 40, 3) := by decide +kernel
theorem dX12_line_16 : decode cX12_line 16 = .ok (.iload_n 1, 1) := by decide +kernel
theorem dX12_line_17 : decode cX12_line 17 = .ok (.iload_n 2, 1) := by decide +kernel
theorem dX12_line_18 : decode cX12_line 18 = .ok (.if_icmp .eq 35, 3) := by decide +kernel
theorem dX12_line_21 : decode cX12_line 21 = .ok (.iload_n 3, 1) := by decide +kernel
theorem dX12_line_22 : decode cX12_line 22 = .ok (.iconst 1, 1) := by decide +kernel
theorem dX12_line_23 : decode cX12_line 23 = .ok (.bipush 50, 2) := by decide +kernel
theorem dX12_line_25 : decode cX12_line 25 = .ok (.invokestatic 189, 3) := by decide +kernel
theorem dX12_line_28 : decode cX12_line 28 = .ok (.ifCond .eq 25, 3) := by decide +kernel
theorem dX12_line_31 : decode cX12_line 31 = .ok (.iload 4, 2) := by decide +kernel
theorem dX12_line_33 : decode cX12_line 33 = .ok (.iconst 1, 1) := by decide +kernel
theorem dX12_line_34 : decode cX12_line 34 = .ok (.bipush 9, 2) := by decide +kernel
theorem dX12_line_36 : decode cX12_line 36 = .ok (.invokestatic 189, 3) := by decide +kernel
theorem dX12_line_39 : decode cX12_line 39 = .ok (.ifCond .eq 14, 3) := by decide +kernel
theorem dX12_line_42 : decode cX12_line 42 = .ok (.iload 5, 2) := by decide +kernel
theorem dX12_line_44 : decode cX12_line 44 = .ok (.iconst 0, 1) := by decide +kernel
theorem dX12_line_45 : decode cX12_line 45 = .ok (.bipush 9, 2) := by decide +kernel
theorem dX12_line_47 : decode cX12_line 47 = .ok (.invokestatic 189, 3) := by decide +kernel
theorem dX12_line_50 : decode cX12_line 50 = .ok (.ifCond .ne 10, 3) := by decide +kernel
theorem dX12_line_53 : decode cX12_line 53 = .ok (.aload_n 0, 1) := by decide +kernel
theorem dX12_line_54 : decode cX12_line 54 = .ok (.ldc 199, 2) := by decide +kernel
theorem dX12_line_56 : decode cX12_line 56 = .ok (.invokevirtual 200, 3) := by decide +kernel
theorem dX12_line_59 : decode cX12_line 59 = .ok (.ireturn, 1) := by decide +kernel
theorem dX12_line_60 : decode cX12_line 60 = .ok (.aload_n 0, 1) := by decide +kernel
theorem dX12_line_61 : decode cX12_line 61 = .ok (.getfield 193, 3) := by decide +kernel
theorem dX12_line_64 : decode cX12_line 64 = .ok (.bipush 9, 2) := by decide +kernel
theorem dX12_line_66 : decode cX12_line 66 = .ok (.if_icmp .ne 10, 3) := by decide +kernel
theorem dX12_line_69 : decode cX12_line 69 = .ok (.aload_n 0, 1) := by decide +kernel
theorem dX12_line_70 : decode cX12_line 70 = .ok (.ldc 204, 2) := by decide +kernel
theorem dX12_line_72 : decode cX12_line 72 = .ok (.invokevirtual 200, 3) := by decide +kernel
theorem dX12_line_75 : decode cX12_line 75 = .ok (.ireturn, 1) := by decide +kernel
theorem dX12_line_76 : decode cX12_line 76 = .ok (.aload_n 0, 1) := by decide +kernel
theorem dX12_line_77 : decode cX12_line 77 = .ok (.getfield 17, 3) := by decide +kernel
theorem dX12_line_80 : decode cX12_line 80 = .ok (.aload_n 0, 1) := by decide +kernel
theorem dX12_line_81 : decode cX12_line 81 = .ok (.getfield 193, 3) := by decide +kernel
theorem dX12_line_84 : decode cX12_line 84 = .ok (.iload_n 1, 1) := by decide +kernel
theorem dX12_line_85 : decode cX12_line 85 = .ok (.iastore, 1) := by decide +kernel
theorem dX12_line_86 : decode cX12_line 86 = .ok (.aload_n 0, 1) := by decide +kernel
theorem dX12_line_87 : decode cX12_line 87 = .ok (.getfield 20, 3) := by decide +kernel
theorem dX12_line_90 : decode cX12_line 90 = .ok (.aload_n 0, 1) := by decide +kernel
theorem dX12_line_91 : decode cX12_line 91 = .ok (.getfield 193, 3) := by decide +kernel
theorem dX12_line_94 : decode cX12_line 94 = .ok (.iload_n 2, 1) := by decide +kernel
theorem dX12_line_95 : decode cX12_line 95 = .ok (.iastore, 1) := by decide +kernel
theorem dX12_line_96 : decode cX12_line 96 = .ok (.aload_n 0, 1) := by decide +kernel
theorem dX12_line_97 : decode cX12_line 97 = .ok (.getfield 23, 3) := by decide +kernel
theorem dX12_line_100 : decode cX12_line 100 = .ok (.aload_n 0, 1) := by decide +kernel
theorem dX12_line_101 : decode cX12_line 101 = .ok (.getfield 193, 3) := by decide +kernel
theorem dX12_line_104 : decode cX12_line 104 = .ok (.iload_n 3, 1) := by decide +kernel
theorem dX12_line_105 : decode cX12_line 105 = .ok (.iastore, 1) := by decide +kernel
theorem dX12_line_106 : decode cX12_line 106 = .ok (.aload_n 0, 1) := by decide +kernel
theorem dX12_line_107 : decode cX12_line 107 = .ok (.getfield 26, 3) := by decide +kernel
theorem dX12_line_110 : decode cX12_line 110 = .ok (.aload_n 0, 1) := by decide +kernel
theorem dX12_line_111 : decode cX12_line 111 = .ok (.getfield 193, 3) := by decide +kernel
theorem dX12_line_114 : decode cX12_line 114 = .ok (.iload 4, 2) := by decide +kernel
theorem dX12_line_116 : decode cX12_line 116 = .ok (.iastore, 1) := by decide +kernel
theorem dX12_line_117 : decode cX12_line 117 = .ok (.aload_n 0, 1) := by decide +kernel
theorem dX12_line_118 : decode cX12_line 118 = .ok (.getfield 29, 3) := by decide +kernel
theorem dX12_line_121 : decode cX12_line 121 = .ok (.aload_n 0, 1) := by decide +kernel
theorem dX12_line_122 : decode cX12_line 122 = .ok (.getfield 193, 3) := by decide +kernel
theorem dX12_line_125 : decode cX12_line 125 = .ok (.iload 5, 2) := by decide +kernel
theorem dX12_line_127 : decode cX12_line 127 = .ok (.iastore, 1) := by decide +kernel
theorem dX12_line_128 : decode cX12_line 128 = .ok (.aload_n 0, 1) := by decide +kernel
theorem dX12_line_129 : decode cX12_line 129 = .ok (.getfield 41, 3) := by decide +kernel
theorem dX12_line_132 : decode cX12_line 132 = .ok (.aload_n 0, 1) := by decide +kernel
theorem dX12_line_133 : decode cX12_line 133 = .ok (.getfield 193, 3) := by decide +kernel
theorem dX12_line_136 : decode cX12_line 136 = .ok (.iconst 1, 1) := by decide +kernel
theorem dX12_line_137 : decode cX12_line 137 = .ok (.bastore, 1) := by decide +kernel
theorem dX12_line_138 : decode cX12_line 138 = .ok (.aload_n 0, 1) := by decide +kernel
theorem dX12_line_139 : decode cX12_line 139 = .ok (.dup, 1) := by decide +kernel
theorem dX12_line_140 : decode cX12_line 140 = .ok (.getfield 193, 3) := by decide +kernel
theorem dX12_line_143 : decode cX12_line 143 = .ok (.iconst 1, 1) := by decide +kernel
theorem dX12_line_144 : decode cX12_line 144 = .ok (.iadd, 1) := by decide +kernel
theorem dX12_line_145 : decode cX12_line 145 = .ok (.putfield 193, 3) := by decide +kernel
theorem dX12_line_148 : decode cX12_line 148 = .ok (.aload_n 0, 1) := by decide +kernel
theorem dX12_line_149 : decode cX12_line 149 = .ok (.getfield 193, 3) := by decide +kernel
theorem dX12_line_152 : decode cX12_line 152 = .ok (.iconst 1, 1) := by decide +kernel
theorem dX12_line_153 : decode cX12_line 153 = .ok (.isub, 1) := by decide +kernel
theorem dX12_line_154 : decode cX12_line 154 = .ok (.ireturn, 1) := by decide +kernel
theorem dX12_up_0 : decode cX12_up 0 = .ok (.aload_n 0, 1) := by decide +kernel
theorem dX12_up_1 : decode cX12_up 1 = .ok (.iload_n 1, 1) := by decide +kernel
theorem dX12_up_2 : decode cX12_up 2 = .ok (.invokevirtual 209, 3) := by decide +kernel
theorem dX12_up_5 : decode cX12_up 5 = .ok (.ifCond .ne 10, 3) := by decide +kernel
theorem dX12_up_8 : decode cX12_up 8 = .ok (.aload_n 0, 1) := by decide +kernel
theorem dX12_up_9 : decode cX12_up 9 = .ok (.ldc 199, 2) := by decide +kernel
theorem dX12_up_11 : decode cX12_up 11 = .ok (.invokevirtual 200, 3) := by decide +kernel
theorem dX12_up_14 : decode cX12_up 14 = .ok (.ireturn, 1) := by decide +kernel
theorem dX12_up_15 : decode cX12_up 15 = .ok (.aload_n 0, 1) := by decide +kernel
theorem dX12_up_16 : decode cX12_up 16 = .ok (.getfield 41, 3) := by decide +kernel
theorem dX12_up_19 : decode cX12_up 19 = .ok (.iload_n 1, 1) := by decide +kernel
theorem dX12_up_20 : decode cX12_up 20 = .ok (.baload, 1) := by decide +kernel
theorem dX12_up_21 : decode cX12_up 21 = .ok (.istore_n 3, 1) := by decide +kernel
theorem dX12_up_22 : decode cX12_up 22 = .ok (.aload_n 0, 1) := by decide +kernel
theorem dX12_up_23 : decode cX12_up 23 = .ok (.getfield 41, 3) := by decide +kernel
theorem dX12_up_26 : decode cX12_up 26 = .ok (.iload_n 1, 1) := by decide +kernel
theorem dX12_up_27 : decode cX12_up 27 = .ok (.iload_n 2, 1) := by decide +kernel
theorem dX12_up_28 : decode cX12_up 28 = .ok (.bastore, 1) := by decide +kernel
theorem dX12_up_29 : decode cX12_up 29 = .ok (.iload_n 3, 1) := by decide +kernel
theorem dX12_up_30 : decode cX12_up 30 = .ok (.iload_n 2, 1) := by decide +kernel
theorem dX12_up_31 : decode cX12_up 31 = .ok (.if_icmp .ne 7, 3) := by decide +kernel
theorem dX12_up_34 : decode cX12_up 34 = .ok (.iconst 0, 1) := by decide +kernel
theorem dX12_up_35 : decode cX12_up 35 = .ok (.goto 4, 3) := by decide +kernel
theorem dX12_up_38 : decode cX12_up 38 = .ok (.iconst 1, 1) := by decide +kernel
theorem dX12_up_39 : decode cX12_up 39 = .ok (.ireturn, 1) := by decide +kernel
theorem dX12_gather_0 : decode cX12_gather 0 = .ok (.aload_n 0, 1) := by decide +kernel
theorem dX12_gather_1 : decode cX12_gather 1 = .ok (.getfield 120, 3) := by decide +kernel
theorem dX12_gather_4 : decode cX12_gather 4 = .ok (.iload_n 1, 1) := by decide +kernel
theorem dX12_gather_5 : decode cX12_gather 5 = .ok (.iconst 0, 1) := by decide +kernel
theorem dX12_gather_6 : decode cX12_gather 6 = .ok (.iastore, 1) := by decide +kernel
theorem dX12_gather_7 : decode cX12_gather 7 = .ok (.iconst 0, 1) := by decide +kernel
theorem dX12_gather_8 : decode cX12_gather 8 = .ok (.istore 4, 2) := by decide +kernel
theorem dX12_gather_10 : decode cX12_gather 10 = .ok (.iconst 1, 1) := by decide +kernel
theorem dX12_gather_11 : decode cX12_gather 11 = .ok (.iload_n 2, 1) := by decide +kernel
theorem dX12_gather_12 : decode cX12_gather 12 = .ok (.ishl, 1) := by decide +kernel
theorem dX12_gather_13 : decode cX12_gather 13 = .ok (.istore 5, 2) := by decide +kernel
theorem dX12_gather_15 : decode cX12_gather 15 = .ok (.aload_n 0, 1) := by decide +kernel
theorem dX12_gather_16 : decode cX12_gather 16 = .ok (.getfield 138, 3) := by decide +kernel
theorem dX12_gather_19 : decode cX12_gather 19 = .ok (.iconst 0, 1) := by decide +kernel
theorem dX12_gather_20 : decode cX12_gather 20 = .ok (.iload_n 2, 1) := by decide +kernel
theorem dX12_gather_21 : decode cX12_gather 21 = .ok (.iastore, 1) := by decide +kernel
theorem dX12_gather_22 : decode cX12_gather 22 = .ok (.aload_n 0, 1) := by decide +kernel
theorem dX12_gather_23 : decode cX12_gather 23 = .ok (.getfield 141, 3) := by decide +kernel
theorem dX12_gather_26 : decode cX12_gather 26 = .ok (.iconst 0, 1) := by decide +kernel
theorem dX12_gather_27 : decode cX12_gather 27 = .ok (.iconst 0, 1) := by decide +kernel
theorem dX12_gather_28 : decode cX12_gather 28 = .ok (.iastore, 1) := by decide +kernel
theorem dX12_gather_29 : decode cX12_gather 29 = .ok (.iload 4, 2) := by decide +kernel
theorem dX12_gather_31 : decode cX12_gather 31 = .ok (.ifCond .lt 194, 3) := by decide +kernel
theorem dX12_gather_34 : decode cX12_gather 34 = .ok (.aload_n 0, 1) := by decide +kernel
theorem dX12_gather_35 : decode cX12_gather 35 = .ok (.getfield 141, 3) := by decide +kernel
theorem dX12_gather_38 : decode cX12_gather 38 = .ok (.iload 4, 2) := by decide +kernel
theorem dX12_gather_40 : decode cX12_gather 40 = .ok (.iaload, 1) := by decide +kernel
theorem dX12_gather_41 : decode cX12_gather 41 = .ok (.istore 6, 2) := by decide +kernel
theorem dX12_gather_43 : decode cX12_gather 43 = .ok (.iload 6, 2) := by decide +kernel
theorem dX12_gather_45 : decode cX12_gather 45 = .ok (.aload_n 0, 1) := by decide +kernel
theorem dX12_gather_46 : decode cX12_gather 46 = .ok (.getfield 193, 3) := by decide +kernel
theorem dX12_gather_49 : decode cX12_gather 49 = .ok (.if_icmp .ne 25, 3) := by decide +kernel
theorem dX12_gather_52 : decode cX12_gather 52 = .ok (.iload 5, 2) := by decide +kernel
theorem dX12_gather_54 : decode cX12_gather 54 = .ok (.iconst 1, 1) := by decide +kernel
theorem dX12_gather_55 : decode cX12_gather 55 = .ok (.aload_n 0, 1) := by decide +kernel
theorem dX12_gather_56 : decode cX12_gather 56 = .ok (.getfield 138, 3) := by decide +kernel
theorem dX12_gather_59 : decode cX12_gather 59 = .ok (.iload 4, 2) := by decide +kernel
theorem dX12_gather_61 : decode cX12_gather 61 = .ok (.iaload, 1) := by decide +kernel
theorem dX12_gather_62 : decode cX12_gather 62 = .ok (.ishl, 1) := by decide +kernel
theorem dX12_gather_63 : decode cX12_gather 63 = .ok (.iconst (-1), 1) := by decide +kernel
theorem dX12_gather_64 : decode cX12_gather 64 = .ok (.ixor, 1) := by decide +kernel
theorem dX12_gather_65 : decode cX12_gather 65 = .ok (.iand, 1) := by decide +kernel
theorem dX12_gather_66 : decode cX12_gather 66 = .ok (.istore 5, 2) := by decide +kernel
theorem dX12_gather_68 : decode cX12_gather 68 = .ok (.iinc 4 (-1), 3) := by decide +kernel
theorem dX12_gather_71 : decode cX12_gather 71 = .ok (.goto (-42), 3) := by decide +kernel
theorem dX12_gather_74 : decode cX12_gather 74 = .ok (.aload_n 0, 1) := by decide +kernel
theorem dX12_gather_75 : decode cX12_gather 75 = .ok (.getfield 141, 3) := by decide +kernel
theorem dX12_gather_78 : decode cX12_gather 78 = .ok (.iload 4, 2) := by decide +kernel
theorem dX12_gather_80 : decode cX12_gather 80 = .ok (.dup2, 1) := by decide +kernel
theorem dX12_gather_81 : decode cX12_gather 81 = .ok (.iaload, 1) := by decide +kernel
theorem dX12_gather_82 : decode cX12_gather 82 = .ok (.iconst 1, 1) := by decide +kernel
theorem dX12_gather_83 : decode cX12_gather 83 = .ok (.iadd, 1) := by decide +kernel
theorem dX12_gather_84 : decode cX12_gather 84 = .ok (.iastore, 1) := by decide +kernel
theorem dX12_gather_85 : decode cX12_gather 85 = .ok (.aload_n 0, 1) := by decide +kernel
theorem dX12_gather_86 : decode cX12_gather 86 = .ok (.getfield 17, 3) := by decide +kernel
theorem dX12_gather_89 : decode cX12_gather 89 = .ok (.iload 6, 2) := by decide +kernel
theorem dX12_gather_91 : decode cX12_gather 91 = .ok (.iaload, 1) := by decide +kernel
theorem dX12_gather_92 : decode cX12_gather 92 = .ok (.aload_n 0, 1) := by decide +kernel
theorem dX12_gather_93 : decode cX12_gather 93 = .ok (.getfield 138, 3) := by decide +kernel
theorem dX12_gather_96 : decode cX12_gather 96 = .ok (.iload 4, 2) := by decide +kernel
theorem dX12_gather_98 : decode cX12_gather 98 = .ok (.iaload, 1) := by decide +kernel
theorem dX12_gather_99 : decode cX12_gather 99 = .ok (.if_icmp .ne 13, 3) := by decide +kernel
theorem dX12_gather_102 : decode cX12_gather 102 = .ok (.aload_n 0, 1) := by decide +kernel
theorem dX12_gather_103 : decode cX12_gather 103 = .ok (.getfield 20, 3) := by decide +kernel
theorem dX12_gather_106 : decode cX12_gather 106 = .ok (.iload 6, 2) := by decide +kernel
theorem dX12_gather_108 : decode cX12_gather 108 = .ok (.iaload, 1) := by decide +kernel
theorem dX12_gather_109 : decode cX12_gather 109 = .ok (.goto 31, 3) := by decide +kernel
theorem dX12_gather_112 : decode cX12_gather 112 = .ok (.aload_n 0, 1) := by decide +kernel
theorem dX12_gather_113 : decode cX12_gather 113 = .ok (.getfield 20, 3) := by decide +kernel
theorem dX12_gather_116 : decode cX12_gather 116 = .ok (.iload 6, 2) := by decide +kernel
theorem dX12_gather_118 : decode cX12_gather 118 = .ok (.iaload, 1) := by decide +kernel
theorem dX12_gather_119 : decode cX12_gather 119 = .ok (.aload_n 0, 1) := by decide +kernel
theorem dX12_gather_120 : decode cX12_gather 120 = .ok (.getfield 138, 3) := by decide +kernel
theorem dX12_gather_123 : decode cX12_gather 123 = .ok (.iload 4, 2) := by decide +kernel
theorem dX12_gather_125 : decode cX12_gather 125 = .ok (.iaload, 1) := by decide +kernel
theorem dX12_gather_126 : decode cX12_gather 126 = .ok (.if_icmp .ne 13, 3) := by decide +kernel
theorem dX12_gather_129 : decode cX12_gather 129 = .ok (.aload_n 0, 1) := by decide +kernel
theorem dX12_gather_130 : decode cX12_gather 130 = .ok (.getfield 17, 3) := by decide +kernel
theorem dX12_gather_133 : decode cX12_gather 133 = .ok (.iload 6, 2) := by decide +kernel
theorem dX12_gather_135 : decode cX12_gather 135 = .ok (.iaload, 1) := by decide +kernel
theorem dX12_gather_136 : decode cX12_gather 136 = .ok (.goto 4, 3) := by decide +kernel
theorem dX12_gather_139 : decode cX12_gather 139 = .ok (.iconst (-1), 1) := by decide +kernel
theorem dX12_gather_140 : decode cX12_gather 140 = .ok (.istore 7, 2) := by decide +kernel
theorem dX12_gather_142 : decode cX12_gather 142 = .ok (.iload 7, 2) := by decide +kernel
theorem dX12_gather_144 : decode cX12_gather 144 = .ok (.ifCond .lt (-115), 3) := by decide +kernel
theorem dX12_gather_147 : decode cX12_gather 147 = .ok (.iload 5, 2) := by decide +kernel
theorem dX12_gather_149 : decode cX12_gather 149 = .ok (.iload 7, 2) := by decide +kernel
theorem dX12_gather_151 : decode cX12_gather 151 = .ok (.invokestatic 212, 3) := by decide +kernel
theorem dX12_gather_154 : decode cX12_gather 154 = .ok (.ifCond .eq 6, 3) := by decide +kernel
theorem dX12_gather_157 : decode cX12_gather 157 = .ok (.goto (-128), 3) := by decide +kernel
theorem dX12_gather_160 : decode cX12_gather 160 = .ok (.aload_n 0, 1) := by decide +kernel
theorem dX12_gather_161 : decode cX12_gather 161 = .ok (.getfield 144, 3) := by decide +kernel
theorem dX12_gather_164 : decode cX12_gather 164 = .ok (.iload 4, 2) := by decide +kernel
theorem dX12_gather_166 : decode cX12_gather 166 = .ok (.iload 6, 2) := by decide +kernel
theorem dX12_gather_168 : decode cX12_gather 168 = .ok (.iastore, 1) := by decide +kernel
theorem dX12_gather_169 : decode cX12_gather 169 = .ok (.iload 7, 2) := by decide +kernel
theorem dX12_gather_171 : decode cX12_gather 171 = .ok (.iload_n 3, 1) := by decide +kernel
theorem dX12_gather_172 : decode cX12_gather 172 = .ok (.if_icmp .ne 21, 3) := by decide +kernel
theorem dX12_gather_175 : decode cX12_gather 175 = .ok (.aload_n 0, 1) := by decide +kernel
theorem dX12_gather_176 : decode cX12_gather 176 = .ok (.iload_n 1, 1) := by decide +kernel
theorem dX12_gather_177 : decode cX12_gather 177 = .ok (.iload 4, 2) := by decide +kernel
theorem dX12_gather_179 : decode cX12_gather 179 = .ok (.iconst 1, 1) := by decide +kernel
theorem dX12_gather_180 : decode cX12_gather 180 = .ok (.iadd, 1) := by decide +kernel
theorem dX12_gather_181 : decode cX12_gather 181 = .ok (.iload 5, 2) := by decide +kernel
theorem dX12_gather_183 : decode cX12_gather 183 = .ok (.iconst 1, 1) := by decide +kernel
theorem dX12_gather_184 : decode cX12_gather 184 = .ok (.iload_n 3, 1) := by decide +kernel
theorem dX12_gather_185 : decode cX12_gather 185 = .ok (.ishl, 1) := by decide +kernel
theorem dX12_gather_186 : decode cX12_gather 186 = .ok (.ior, 1) := by decide +kernel
theorem dX12_gather_187 : decode cX12_gather 187 = .ok (.invokevirtual 216, 3) := by decide +kernel
theorem dX12_gather_190 : decode cX12_gather 190 = .ok (.goto (-161), 3) := by decide +kernel
theorem dX12_gather_193 : decode cX12_gather 193 = .ok (.iinc 4 1, 3) := by decide +kernel
theorem dX12_gather_196 : decode cX12_gather 196 = .ok (.aload_n 0, 1) := by decide +kernel
theorem dX12_gather_197 : decode cX12_gather 197 = .ok (.getfield 138, 3) := by decide +kernel
theorem dX12_gather_200 : decode cX12_gather 200 = .ok (.iload 4, 2) := by decide +kernel
theorem dX12_gather_202 : decode cX12_gather 202 = .ok (.iload 7, 2) := by decide +kernel
theorem dX12_gather_204 : decode cX12_gather 204 = .ok (.iastore, 1) := by decide +kernel
theorem dX12_gather_205 : decode cX12_gather 205 = .ok (.aload_n 0, 1) := by decide +kernel
theorem dX12_gather_206 : decode cX12_gather 206 = .ok (.getfield 141, 3) := by decide +kernel
theorem dX12_gather_209 : decode cX12_gather 209 = .ok (.iload 4, 2) := by decide +kernel
theorem dX12_gather_211 : decode cX12_gather 211 = .ok (.iconst 0, 1) := by decide +kernel
theorem dX12_gather_212 : decode cX12_gather 212 = .ok (.iastore, 1) := by decide +kernel
theorem dX12_gather_213 : decode cX12_gather 213 = .ok (.iload 5, 2) := by decide +kernel
theorem dX12_gather_215 : decode cX12_gather 215 = .ok (.iconst 1, 1) := by decide +kernel
theorem dX12_gather_216 : decode cX12_gather 216 = .ok (.iload 7, 2) := by decide +kernel
theorem dX12_gather_218 : decode cX12_gather 218 = .ok (.ishl, 1) := by decide +kernel
theorem dX12_gather_219 : decode cX12_gather 219 = .ok (.ior, 1) := by decide +kernel
theorem dX12_gather_220 : decode cX12_gather 220 = .ok (.istore 5, 2) := by decide +kernel
theorem dX12_gather_222 : decode cX12_gather 222 = .ok (.goto (-193), 3) := by decide +kernel
theorem dX12_gather_225 : decode cX12_gather 225 = .ok (.return_, 1) := by decide +kernel
theorem dX12_record_0 : decode cX12_record 0 = .ok (.iconst 0, 1) := by decide +kernel
theorem dX12_record_1 : decode cX12_record 1 = .ok (.istore 4, 2) := by decide +kernel
theorem dX12_record_3 : decode cX12_record 3 = .ok (.iconst 0, 1) := by decide +kernel
theorem dX12_record_4 : decode cX12_record 4 = .ok (.istore 5, 2) := by decide +kernel
theorem dX12_record_6 : decode cX12_record 6 = .ok (.iconst 0, 1) := by decide +kernel
theorem dX12_record_7 : decode cX12_record 7 = .ok (.istore 6, 2) := by decide +kernel
theorem dX12_record_9 : decode cX12_record 9 = .ok (.iconst 0, 1) := by decide +kernel
theorem dX12_record_10 : decode cX12_record 10 = .ok (.istore 7, 2) := by decide +kernel
theorem dX12_record_12 : decode cX12_record 12 = .ok (.iload 7, 2) := by decide +kernel
theorem dX12_record_14 : decode cX12_record 14 = .ok (.iload_n 2, 1) := by decide +kernel
theorem dX12_record_15 : decode cX12_record 15 = .ok (.if_icmp .ge 55, 3) := by decide +kernel
theorem dX12_record_18 : decode cX12_record 18 = .ok (.bipush 10, 2) := by decide +kernel
theorem dX12_record_20 : decode cX12_record 20 = .ok (.iload 4, 2) := by decide +kernel
theorem dX12_record_22 : decode cX12_record 22 = .ok (.imul, 1) := by decide +kernel
theorem dX12_record_23 : decode cX12_record 23 = .ok (.aload_n 0, 1) := by decide +kernel
theorem dX12_record_24 : decode cX12_record 24 = .ok (.getfield 144, 3) := by decide +kernel
theorem dX12_record_27 : decode cX12_record 27 = .ok (.iload 7, 2) := by decide +kernel
theorem dX12_record_29 : decode cX12_record 29 = .ok (.iaload, 1) := by decide +kernel
theorem dX12_record_30 : decode cX12_record 30 = .ok (.iadd, 1) := by decide +kernel
theorem dX12_record_31 : decode cX12_record 31 = .ok (.istore 4, 2) := by decide +kernel
theorem dX12_record_33 : decode cX12_record 33 = .ok (.iload 5, 2) := by decide +kernel
theorem dX12_record_35 : decode cX12_record 35 = .ok (.aload_n 0, 1) := by decide +kernel
theorem dX12_record_36 : decode cX12_record 36 = .ok (.getfield 26, 3) := by decide +kernel
theorem dX12_record_39 : decode cX12_record 39 = .ok (.aload_n 0, 1) := by decide +kernel
theorem dX12_record_40 : decode cX12_record 40 = .ok (.getfield 144, 3) := by decide +kernel
theorem dX12_record_43 : decode cX12_record 43 = .ok (.iload 7, 2) := by decide +kernel
theorem dX12_record_45 : decode cX12_record 45 = .ok (.iaload, 1) := by decide +kernel
theorem dX12_record_46 : decode cX12_record 46 = .ok (.iaload, 1) := by decide +kernel
theorem dX12_record_47 : decode cX12_record 47 = .ok (.iadd, 1) := by decide +kernel
theorem dX12_record_48 : decode cX12_record 48 = .ok (.istore 5, 2) := by decide +kernel
theorem dX12_record_50 : decode cX12_record 50 = .ok (.iload 6, 2) := by decide +kernel
theorem dX12_record_52 : decode cX12_record 52 = .ok (.iconst 1, 1) := by decide +kernel
theorem dX12_record_53 : decode cX12_record 53 = .ok (.aload_n 0, 1) := by decide +kernel
theorem dX12_record_54 : decode cX12_record 54 = .ok (.getfield 144, 3) := by decide +kernel
theorem dX12_record_57 : decode cX12_record 57 = .ok (.iload 7, 2) := by decide +kernel
theorem dX12_record_59 : decode cX12_record 59 = .ok (.iaload, 1) := by decide +kernel
theorem dX12_record_60 : decode cX12_record 60 = .ok (.ishl, 1) := by decide +kernel
theorem dX12_record_61 : decode cX12_record 61 = .ok (.ior, 1) := by decide +kernel
theorem dX12_record_62 : decode cX12_record 62 = .ok (.istore 6, 2) := by decide +kernel
theorem dX12_record_64 : decode cX12_record 64 = .ok (.iinc 7 1, 3) := by decide +kernel
theorem dX12_record_67 : decode cX12_record 67 = .ok (.goto (-55), 3) := by decide +kernel
theorem dX12_record_70 : decode cX12_record 70 = .ok (.sipush 256, 3) := by decide +kernel
theorem dX12_record_73 : decode cX12_record 73 = .ok (.iload_n 1, 1) := by decide +kernel
theorem dX12_record_74 : decode cX12_record 74 = .ok (.imul, 1) := by decide +kernel
theorem dX12_record_75 : decode cX12_record 75 = .ok (.aload_n 0, 1) := by decide +kernel
theorem dX12_record_76 : decode cX12_record 76 = .ok (.getfield 120, 3) := by decide +kernel
theorem dX12_record_79 : decode cX12_record 79 = .ok (.iload_n 1, 1) := by decide +kernel
theorem dX12_record_80 : decode cX12_record 80 = .ok (.iaload, 1) := by decide +kernel
theorem dX12_record_81 : decode cX12_record 81 = .ok (.iadd, 1) := by decide +kernel
theorem dX12_record_82 : decode cX12_record 82 = .ok (.istore 7, 2) := by decide +kernel
theorem dX12_record_84 : decode cX12_record 84 = .ok (.iload 7, 2) := by decide +kernel
theorem dX12_record_86 : decode cX12_record 86 = .ok (.sipush 256, 3) := by decide +kernel
theorem dX12_record_89 : decode cX12_record 89 = .ok (.iload_n 1, 1) := by decide +kernel
theorem dX12_record_90 : decode cX12_record 90 = .ok (.imul, 1) := by decide +kernel
theorem dX12_record_91 : decode cX12_record 91 = .ok (.if_icmp .le 105, 3) := by decide +kernel
theorem dX12_record_94 : decode cX12_record 94 = .ok (.aload_n 0, 1) := by decide +kernel
theorem dX12_record_95 : decode cX12_record 95 = .ok (.iload 5, 2) := by decide +kernel
theorem dX12_record_97 : decode cX12_record 97 = .ok (.iload_n 2, 1) := by decide +kernel
