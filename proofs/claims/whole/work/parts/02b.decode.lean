theorem dX5_join_34 : decode cX5_join 34 = .ok (.getfield 10, 3) := by decide +kernel
theorem dX5_join_37 : decode cX5_join 37 = .ok (.invokevirtual 45, 3) := by decide +kernel
theorem dX5_join_40 : decode cX5_join 40 = .ok (.ireturn, 1) := by decide +kernel
theorem dX5_leave_0 : decode cX5_leave 0 = .ok (.aload_n 0, 1) := by decide +kernel
theorem dX5_leave_1 : decode cX5_leave 1 = .ok (.getfield 10, 3) := by decide +kernel
theorem dX5_leave_4 : decode cX5_leave 4 = .ok (.iload_n 1, 1) := by decide +kernel
theorem dX5_leave_5 : decode cX5_leave 5 = .ok (.invokevirtual 49, 3) := by decide +kernel
theorem dX5_leave_8 : decode cX5_leave 8 = .ok (.ifCond .ne 13, 3) := by decide +kernel
theorem dX5_leave_11 : decode cX5_leave 11 = .ok (.new 53, 3) := by decide +kernel
theorem dX5_leave_14 : decode cX5_leave 14 = .ok (.dup, 1) := by decide +kernel
theorem dX5_leave_15 : decode cX5_leave 15 = .ok (.ldc 55, 2) := by decide +kernel
theorem dX5_leave_17 : decode cX5_leave 17 = .ok (.invokespecial 57, 3) := by decide +kernel
theorem dX5_leave_20 : decode cX5_leave 20 = .ok (.athrow, 1) := by decide +kernel
theorem dX5_leave_21 : decode cX5_leave 21 = .ok (.aload_n 0, 1) := by decide +kernel
theorem dX5_leave_22 : decode cX5_leave 22 = .ok (.getfield 10, 3) := by decide +kernel
theorem dX5_leave_25 : decode cX5_leave 25 = .ok (.getfield 58, 3) := by decide +kernel
theorem dX5_leave_28 : decode cX5_leave 28 = .ok (.iload_n 1, 1) := by decide +kernel
theorem dX5_leave_29 : decode cX5_leave 29 = .ok (.aaload, 1) := by decide +kernel
theorem dX5_leave_30 : decode cX5_leave 30 = .ok (.getfield 62, 3) := by decide +kernel
theorem dX5_leave_33 : decode cX5_leave 33 = .ok (.ifCond .eq 18, 3) := by decide +kernel
theorem dX5_leave_36 : decode cX5_leave 36 = .ok (.aload_n 0, 1) := by decide +kernel
theorem dX5_leave_37 : decode cX5_leave 37 = .ok (.getfield 10, 3) := by decide +kernel
theorem dX5_leave_40 : decode cX5_leave 40 = .ok (.getfield 58, 3) := by decide +kernel
theorem dX5_leave_43 : decode cX5_leave 43 = .ok (.iload_n 1, 1) := by decide +kernel
theorem dX5_leave_44 : decode cX5_leave 44 = .ok (.aaload, 1) := by decide +kernel
theorem dX5_leave_45 : decode cX5_leave 45 = .ok (.getfield 68, 3) := by decide +kernel
theorem dX5_leave_48 : decode cX5_leave 48 = .ok (.ifCond .ge 13, 3) := by decide +kernel
theorem dX5_leave_51 : decode cX5_leave 51 = .ok (.new 34, 3) := by decide +kernel
theorem dX5_leave_54 : decode cX5_leave 54 = .ok (.dup, 1) := by decide +kernel
theorem dX5_leave_55 : decode cX5_leave 55 = .ok (.ldc 71, 2) := by decide +kernel
theorem dX5_leave_57 : decode cX5_leave 57 = .ok (.invokespecial 38, 3) := by decide +kernel
theorem dX5_leave_60 : decode cX5_leave 60 = .ok (.athrow, 1) := by decide +kernel
theorem dX5_leave_61 : decode cX5_leave 61 = .ok (.aload_n 0, 1) := by decide +kernel
theorem dX5_leave_62 : decode cX5_leave 62 = .ok (.getfield 19, 3) := by decide +kernel
theorem dX5_leave_65 : decode cX5_leave 65 = .ok (.aload_n 0, 1) := by decide +kernel
theorem dX5_leave_66 : decode cX5_leave 66 = .ok (.getfield 10, 3) := by decide +kernel
theorem dX5_leave_69 : decode cX5_leave 69 = .ok (.invokevirtual 41, 3) := by decide +kernel
theorem dX5_leave_72 : decode cX5_leave 72 = .ok (.aload_n 0, 1) := by decide +kernel
theorem dX5_leave_73 : decode cX5_leave 73 = .ok (.getfield 10, 3) := by decide +kernel
theorem dX5_leave_76 : decode cX5_leave 76 = .ok (.iload_n 1, 1) := by decide +kernel
theorem dX5_leave_77 : decode cX5_leave 77 = .ok (.invokevirtual 73, 3) := by decide +kernel
theorem dX5_leave_80 : decode cX5_leave 80 = .ok (.ireturn, 1) := by decide +kernel
theorem dX5_give_0 : decode cX5_give 0 = .ok (.aload_n 0, 1) := by decide +kernel
theorem dX5_give_1 : decode cX5_give 1 = .ok (.getfield 10, 3) := by decide +kernel
theorem dX5_give_4 : decode cX5_give 4 = .ok (.iload_n 1, 1) := by decide +kernel
theorem dX5_give_5 : decode cX5_give 5 = .ok (.invokevirtual 49, 3) := by decide +kernel
theorem dX5_give_8 : decode cX5_give 8 = .ok (.ifCond .eq 21, 3) := by decide +kernel
theorem dX5_give_11 : decode cX5_give 11 = .ok (.aload_n 0, 1) := by decide +kernel
theorem dX5_give_12 : decode cX5_give 12 = .ok (.getfield 10, 3) := by decide +kernel
theorem dX5_give_15 : decode cX5_give 15 = .ok (.iload_n 2, 1) := by decide +kernel
theorem dX5_give_16 : decode cX5_give 16 = .ok (.invokevirtual 49, 3) := by decide +kernel
theorem dX5_give_19 : decode cX5_give 19 = .ok (.ifCond .eq 10, 3) := by decide +kernel
theorem dX5_give_22 : decode cX5_give 22 = .ok (.iload_n 3, 1) := by decide +kernel
theorem dX5_give_23 : decode cX5_give 23 = .ok (.invokestatic 77, 3) := by decide +kernel
theorem dX5_give_26 : decode cX5_give 26 = .ok (.ifCond .ne 13, 3) := by decide +kernel
theorem dX5_give_29 : decode cX5_give 29 = .ok (.new 53, 3) := by decide +kernel
theorem dX5_give_32 : decode cX5_give 32 = .ok (.dup, 1) := by decide +kernel
theorem dX5_give_33 : decode cX5_give 33 = .ok (.ldc 80, 2) := by decide +kernel
theorem dX5_give_35 : decode cX5_give 35 = .ok (.invokespecial 57, 3) := by decide +kernel
theorem dX5_give_38 : decode cX5_give 38 = .ok (.athrow, 1) := by decide +kernel
theorem dX5_give_39 : decode cX5_give 39 = .ok (.iload_n 1, 1) := by decide +kernel
theorem dX5_give_40 : decode cX5_give 40 = .ok (.iload_n 2, 1) := by decide +kernel
theorem dX5_give_41 : decode cX5_give 41 = .ok (.if_icmp .eq 11, 3) := by decide +kernel
theorem dX5_give_44 : decode cX5_give 44 = .ok (.iload 4, 2) := by decide +kernel
theorem dX5_give_46 : decode cX5_give 46 = .ok (.invokestatic 82, 3) := by decide +kernel
theorem dX5_give_49 : decode cX5_give 49 = .ok (.ifCond .ne 13, 3) := by decide +kernel
theorem dX5_give_52 : decode cX5_give 52 = .ok (.new 85, 3) := by decide +kernel
theorem dX5_give_55 : decode cX5_give 55 = .ok (.dup, 1) := by decide +kernel
theorem dX5_give_56 : decode cX5_give 56 = .ok (.ldc 87, 2) := by decide +kernel
theorem dX5_give_58 : decode cX5_give 58 = .ok (.invokespecial 89, 3) := by decide +kernel
theorem dX5_give_61 : decode cX5_give 61 = .ok (.athrow, 1) := by decide +kernel
theorem dX5_give_62 : decode cX5_give 62 = .ok (.aload_n 0, 1) := by decide +kernel
theorem dX5_give_63 : decode cX5_give 63 = .ok (.getfield 10, 3) := by decide +kernel
theorem dX5_give_66 : decode cX5_give 66 = .ok (.iload_n 1, 1) := by decide +kernel
theorem dX5_give_67 : decode cX5_give 67 = .ok (.iload_n 2, 1) := by decide +kernel
theorem dX5_give_68 : decode cX5_give 68 = .ok (.iload_n 3, 1) := by decide +kernel
theorem dX5_give_69 : decode cX5_give 69 = .ok (.iload 4, 2) := by decide +kernel
theorem dX5_give_71 : decode cX5_give 71 = .ok (.invokevirtual 90, 3) := by decide +kernel
theorem dX5_give_74 : decode cX5_give 74 = .ok (.ifCond .ne 13, 3) := by decide +kernel
theorem dX5_give_77 : decode cX5_give 77 = .ok (.new 34, 3) := by decide +kernel
theorem dX5_give_80 : decode cX5_give 80 = .ok (.dup, 1) := by decide +kernel
theorem dX5_give_81 : decode cX5_give 81 = .ok (.ldc 94, 2) := by decide +kernel
theorem dX5_give_83 : decode cX5_give 83 = .ok (.invokespecial 38, 3) := by decide +kernel
theorem dX5_give_86 : decode cX5_give 86 = .ok (.athrow, 1) := by decide +kernel
theorem dX5_give_87 : decode cX5_give 87 = .ok (.aload_n 0, 1) := by decide +kernel
theorem dX5_give_88 : decode cX5_give 88 = .ok (.getfield 19, 3) := by decide +kernel
theorem dX5_give_91 : decode cX5_give 91 = .ok (.aload_n 0, 1) := by decide +kernel
theorem dX5_give_92 : decode cX5_give 92 = .ok (.getfield 10, 3) := by decide +kernel
theorem dX5_give_95 : decode cX5_give 95 = .ok (.invokevirtual 41, 3) := by decide +kernel
theorem dX5_give_98 : decode cX5_give 98 = .ok (.aload_n 0, 1) := by decide +kernel
theorem dX5_give_99 : decode cX5_give 99 = .ok (.getfield 10, 3) := by decide +kernel
theorem dX5_give_102 : decode cX5_give 102 = .ok (.iload_n 1, 1) := by decide +kernel
theorem dX5_give_103 : decode cX5_give 103 = .ok (.iload_n 2, 1) := by decide +kernel
theorem dX5_give_104 : decode cX5_give 104 = .ok (.iload_n 3, 1) := by decide +kernel
theorem dX5_give_105 : decode cX5_give 105 = .ok (.iload 4, 2) := by decide +kernel
theorem dX5_give_107 : decode cX5_give 107 = .ok (.invokevirtual 96, 3) := by decide +kernel
theorem dX5_give_110 : decode cX5_give 110 = .ok (.ireturn, 1) := by decide +kernel
theorem dX5_donate_0 : decode cX5_donate 0 = .ok (.aload_n 0, 1) := by decide +kernel
theorem dX5_donate_1 : decode cX5_donate 1 = .ok (.getfield 10, 3) := by decide +kernel
theorem dX5_donate_4 : decode cX5_donate 4 = .ok (.iload_n 1, 1) := by decide +kernel
theorem dX5_donate_5 : decode cX5_donate 5 = .ok (.invokevirtual 49, 3) := by decide +kernel
theorem dX5_donate_8 : decode cX5_donate 8 = .ok (.ifCond .ne 13, 3) := by decide +kernel
theorem dX5_donate_11 : decode cX5_donate 11 = .ok (.new 53, 3) := by decide +kernel
theorem dX5_donate_14 : decode cX5_donate 14 = .ok (.dup, 1) := by decide +kernel
theorem dX5_donate_15 : decode cX5_donate 15 = .ok (.ldc 55, 2) := by decide +kernel
theorem dX5_donate_17 : decode cX5_donate 17 = .ok (.invokespecial 57, 3) := by decide +kernel
theorem dX5_donate_20 : decode cX5_donate 20 = .ok (.athrow, 1) := by decide +kernel
theorem dX5_donate_21 : decode cX5_donate 21 = .ok (.iload_n 2, 1) := by decide +kernel
theorem dX5_donate_22 : decode cX5_donate 22 = .ok (.iconst 1, 1) := by decide +kernel
theorem dX5_donate_23 : decode cX5_donate 23 = .ok (.sipush 999, 3) := by decide +kernel
theorem dX5_donate_26 : decode cX5_donate 26 = .ok (.invokestatic 100, 3) := by decide +kernel
theorem dX5_donate_29 : decode cX5_donate 29 = .ok (.ifCond .ne 13, 3) := by decide +kernel
theorem dX5_donate_32 : decode cX5_donate 32 = .ok (.new 85, 3) := by decide +kernel
theorem dX5_donate_35 : decode cX5_donate 35 = .ok (.dup, 1) := by decide +kernel
theorem dX5_donate_36 : decode cX5_donate 36 = .ok (.ldc 104, 2) := by decide +kernel
theorem dX5_donate_38 : decode cX5_donate 38 = .ok (.invokespecial 89, 3) := by decide +kernel
theorem dX5_donate_41 : decode cX5_donate 41 = .ok (.athrow, 1) := by decide +kernel
theorem dX5_donate_42 : decode cX5_donate 42 = .ok (.aload_n 0, 1) := by decide +kernel
theorem dX5_donate_43 : decode cX5_donate 43 = .ok (.getfield 10, 3) := by decide +kernel
theorem dX5_donate_46 : decode cX5_donate 46 = .ok (.getfield 58, 3) := by decide +kernel
theorem dX5_donate_49 : decode cX5_donate 49 = .ok (.iload_n 1, 1) := by decide +kernel
theorem dX5_donate_50 : decode cX5_donate 50 = .ok (.aaload, 1) := by decide +kernel
theorem dX5_donate_51 : decode cX5_donate 51 = .ok (.getfield 62, 3) := by decide +kernel
theorem dX5_donate_54 : decode cX5_donate 54 = .ok (.ifCond .eq 19, 3) := by decide +kernel
theorem dX5_donate_57 : decode cX5_donate 57 = .ok (.aload_n 0, 1) := by decide +kernel
theorem dX5_donate_58 : decode cX5_donate 58 = .ok (.getfield 10, 3) := by decide +kernel
theorem dX5_donate_61 : decode cX5_donate 61 = .ok (.getfield 58, 3) := by decide +kernel
theorem dX5_donate_64 : decode cX5_donate 64 = .ok (.iload_n 1, 1) := by decide +kernel
theorem dX5_donate_65 : decode cX5_donate 65 = .ok (.aaload, 1) := by decide +kernel
theorem dX5_donate_66 : decode cX5_donate 66 = .ok (.getfield 68, 3) := by decide +kernel
theorem dX5_donate_69 : decode cX5_donate 69 = .ok (.iload_n 2, 1) := by decide +kernel
theorem dX5_donate_70 : decode cX5_donate 70 = .ok (.if_icmp .ge 13, 3) := by decide +kernel
theorem dX5_donate_73 : decode cX5_donate 73 = .ok (.new 34, 3) := by decide +kernel
theorem dX5_donate_76 : decode cX5_donate 76 = .ok (.dup, 1) := by decide +kernel
theorem dX5_donate_77 : decode cX5_donate 77 = .ok (.ldc 106, 2) := by decide +kernel
theorem dX5_donate_79 : decode cX5_donate 79 = .ok (.invokespecial 38, 3) := by decide +kernel
theorem dX5_donate_82 : decode cX5_donate 82 = .ok (.athrow, 1) := by decide +kernel
theorem dX5_donate_83 : decode cX5_donate 83 = .ok (.aload_n 0, 1) := by decide +kernel
theorem dX5_donate_84 : decode cX5_donate 84 = .ok (.getfield 19, 3) := by decide +kernel
theorem dX5_donate_87 : decode cX5_donate 87 = .ok (.aload_n 0, 1) := by decide +kernel
theorem dX5_donate_88 : decode cX5_donate 88 = .ok (.getfield 10, 3) := by decide +kernel
theorem dX5_donate_91 : decode cX5_donate 91 = .ok (.invokevirtual 41, 3) := by decide +kernel
theorem dX5_donate_94 : decode cX5_donate 94 = .ok (.aload_n 0, 1) := by decide +kernel
theorem dX5_donate_95 : decode cX5_donate 95 = .ok (.getfield 10, 3) := by decide +kernel
theorem dX5_donate_98 : decode cX5_donate 98 = .ok (.iload_n 1, 1) := by decide +kernel
theorem dX5_donate_99 : decode cX5_donate 99 = .ok (.iload_n 2, 1) := by decide +kernel
theorem dX5_donate_100 : decode cX5_donate 100 = .ok (.invokevirtual 108, 3) := by decide +kernel
theorem dX5_donate_103 : decode cX5_donate 103 = .ok (.aload_n 0, 1) := by decide +kernel
theorem dX5_donate_104 : decode cX5_donate 104 = .ok (.getfield 10, 3) := by decide +kernel
theorem dX5_donate_107 : decode cX5_donate 107 = .ok (.getfield 58, 3) := by decide +kernel
theorem dX5_donate_110 : decode cX5_donate 110 = .ok (.iload_n 1, 1) := by decide +kernel
theorem dX5_donate_111 : decode cX5_donate 111 = .ok (.aaload, 1) := by decide +kernel
theorem dX5_donate_112 : decode cX5_donate 112 = .ok (.getfield 68, 3) := by decide +kernel
theorem dX5_donate_115 : decode cX5_donate 115 = .ok (.ireturn, 1) := by decide +kernel
theorem dX5_pass_0 : decode cX5_pass 0 = .ok (.iload_n 1, 1) := by decide +kernel
theorem dX5_pass_1 : decode cX5_pass 1 = .ok (.iconst 1, 1) := by decide +kernel
theorem dX5_pass_2 : decode cX5_pass 2 = .ok (.bipush 50, 2) := by decide +kernel
theorem dX5_pass_4 : decode cX5_pass 4 = .ok (.invokestatic 100, 3) := by decide +kernel
theorem dX5_pass_7 : decode cX5_pass 7 = .ok (.ifCond .ne 13, 3) := by decide +kernel
theorem dX5_pass_10 : decode cX5_pass 10 = .ok (.new 85, 3) := by decide +kernel
theorem dX5_pass_13 : decode cX5_pass 13 = .ok (.dup, 1) := by decide +kernel
theorem dX5_pass_14 : decode cX5_pass 14 = .ok (.ldc 112, 2) := by decide +kernel
theorem dX5_pass_16 : decode cX5_pass 16 = .ok (.invokespecial 89, 3) := by decide +kernel
theorem dX5_pass_19 : decode cX5_pass 19 = .ok (.athrow, 1) := by decide +kernel
theorem dX5_pass_20 : decode cX5_pass 20 = .ok (.aload_n 0, 1) := by decide +kernel
theorem dX5_pass_21 : decode cX5_pass 21 = .ok (.getfield 10, 3) := by decide +kernel
theorem dX5_pass_24 : decode cX5_pass 24 = .ok (.getfield 114, 3) := by decide +kernel
theorem dX5_pass_27 : decode cX5_pass 27 = .ok (.iload_n 1, 1) := by decide +kernel
theorem dX5_pass_28 : decode cX5_pass 28 = .ok (.iadd, 1) := by decide +kernel
theorem dX5_pass_29 : decode cX5_pass 29 = .ok (.sipush 2000, 3) := by decide +kernel
theorem dX5_pass_32 : decode cX5_pass 32 = .ok (.if_icmp .le 13, 3) := by decide +kernel
theorem dX5_pass_35 : decode cX5_pass 35 = .ok (.new 34, 3) := by decide +kernel
theorem dX5_pass_38 : decode cX5_pass 38 = .ok (.dup, 1) := by decide +kernel
theorem dX5_pass_39 : decode cX5_pass 39 = .ok (.ldc 117, 2) := by decide +kernel
theorem dX5_pass_41 : decode cX5_pass 41 = .ok (.invokespecial 38, 3) := by decide +kernel
theorem dX5_pass_44 : decode cX5_pass 44 = .ok (.athrow, 1) := by decide +kernel
theorem dX5_pass_45 : decode cX5_pass 45 = .ok (.aload_n 0, 1) := by decide +kernel
theorem dX5_pass_46 : decode cX5_pass 46 = .ok (.getfield 19, 3) := by decide +kernel
theorem dX5_pass_49 : decode cX5_pass 49 = .ok (.aload_n 0, 1) := by decide +kernel
theorem dX5_pass_50 : decode cX5_pass 50 = .ok (.getfield 10, 3) := by decide +kernel
theorem dX5_pass_53 : decode cX5_pass 53 = .ok (.invokevirtual 41, 3) := by decide +kernel
theorem dX5_pass_56 : decode cX5_pass 56 = .ok (.iconst 0, 1) := by decide +kernel
theorem dX5_pass_57 : decode cX5_pass 57 = .ok (.istore_n 2, 1) := by decide +kernel
theorem dX5_pass_58 : decode cX5_pass 58 = .ok (.iconst 0, 1) := by decide +kernel
theorem dX5_pass_59 : decode cX5_pass 59 = .ok (.istore_n 3, 1) := by decide +kernel
theorem dX5_pass_60 : decode cX5_pass 60 = .ok (.iload_n 3, 1) := by decide +kernel
theorem dX5_pass_61 : decode cX5_pass 61 = .ok (.iload_n 1, 1) := by decide +kernel
theorem dX5_pass_62 : decode cX5_pass 62 = .ok (.if_icmp .ge 19, 3) := by decide +kernel
theorem dX5_pass_65 : decode cX5_pass 65 = .ok (.iload_n 2, 1) := by decide +kernel
theorem dX5_pass_66 : decode cX5_pass 66 = .ok (.aload_n 0, 1) := by decide +kernel
theorem dX5_pass_67 : decode cX5_pass 67 = .ok (.getfield 10, 3) := by decide +kernel
theorem dX5_pass_70 : decode cX5_pass 70 = .ok (.invokevirtual 119, 3) := by decide +kernel
theorem dX5_pass_73 : decode cX5_pass 73 = .ok (.iadd, 1) := by decide +kernel
theorem dX5_pass_74 : decode cX5_pass 74 = .ok (.istore_n 2, 1) := by decide +kernel
theorem dX5_pass_75 : decode cX5_pass 75 = .ok (.iinc 3 1, 3) := by decide +kernel
theorem dX5_pass_78 : decode cX5_pass 78 = .ok (.goto (-18), 3) := by decide +kernel
theorem dX5_pass_81 : decode cX5_pass 81 = .ok (.iload_n 2, 1) := by decide +kernel
theorem dX5_pass_82 : decode cX5_pass 82 = .ok (.ireturn, 1) := by decide +kernel
theorem dX5_set_0 : decode cX5_set 0 = .ok (.iload_n 1, 1) := by decide +kernel
theorem dX5_set_1 : decode cX5_set 1 = .ok (.invokestatic 122, 3) := by decide +kernel
theorem dX5_set_4 : decode cX5_set 4 = .ok (.ifCond .ne 13, 3) := by decide +kernel
theorem dX5_set_7 : decode cX5_set 7 = .ok (.new 53, 3) := by decide +kernel
theorem dX5_set_10 : decode cX5_set 10 = .ok (.dup, 1) := by decide +kernel
theorem dX5_set_11 : decode cX5_set 11 = .ok (.ldc 125, 2) := by decide +kernel
theorem dX5_set_13 : decode cX5_set 13 = .ok (.invokespecial 57, 3) := by decide +kernel
theorem dX5_set_16 : decode cX5_set 16 = .ok (.athrow, 1) := by decide +kernel
theorem dX5_set_17 : decode cX5_set 17 = .ok (.iload_n 2, 1) := by decide +kernel
theorem dX5_set_18 : decode cX5_set 18 = .ok (.iconst 0, 1) := by decide +kernel
theorem dX5_set_19 : decode cX5_set 19 = .ok (.getstatic 127, 3) := by decide +kernel
theorem dX5_set_22 : decode cX5_set 22 = .ok (.iload_n 1, 1) := by decide +kernel
theorem dX5_set_23 : decode cX5_set 23 = .ok (.iaload, 1) := by decide +kernel
theorem dX5_set_24 : decode cX5_set 24 = .ok (.invokestatic 100, 3) := by decide +kernel
theorem dX5_set_27 : decode cX5_set 27 = .ok (.ifCond .ne 13, 3) := by decide +kernel
theorem dX5_set_30 : decode cX5_set 30 = .ok (.new 85, 3) := by decide +kernel
theorem dX5_set_33 : decode cX5_set 33 = .ok (.dup, 1) := by decide +kernel
theorem dX5_set_34 : decode cX5_set 34 = .ok (.ldc 131, 2) := by decide +kernel
theorem dX5_set_36 : decode cX5_set 36 = .ok (.invokespecial 89, 3) := by decide +kernel
theorem dX5_set_39 : decode cX5_set 39 = .ok (.athrow, 1) := by decide +kernel
theorem dX5_set_40 : decode cX5_set 40 = .ok (.aload_n 0, 1) := by decide +kernel
theorem dX5_set_41 : decode cX5_set 41 = .ok (.getfield 19, 3) := by decide +kernel
theorem dX5_set_44 : decode cX5_set 44 = .ok (.aload_n 0, 1) := by decide +kernel
theorem dX5_set_45 : decode cX5_set 45 = .ok (.getfield 10, 3) := by decide +kernel
theorem dX5_set_48 : decode cX5_set 48 = .ok (.invokevirtual 41, 3) := by decide +kernel
theorem dX5_set_51 : decode cX5_set 51 = .ok (.aload_n 0, 1) := by decide +kernel
theorem dX5_set_52 : decode cX5_set 52 = .ok (.getfield 10, 3) := by decide +kernel
theorem dX5_set_55 : decode cX5_set 55 = .ok (.getfield 133, 3) := by decide +kernel
theorem dX5_set_58 : decode cX5_set 58 = .ok (.iload_n 1, 1) := by decide +kernel
theorem dX5_set_59 : decode cX5_set 59 = .ok (.iaload, 1) := by decide +kernel
theorem dX5_set_60 : decode cX5_set 60 = .ok (.istore_n 3, 1) := by decide +kernel
theorem dX5_set_61 : decode cX5_set 61 = .ok (.aload_n 0, 1) := by decide +kernel
theorem dX5_set_62 : decode cX5_set 62 = .ok (.getfield 10, 3) := by decide +kernel
theorem dX5_set_65 : decode cX5_set 65 = .ok (.getfield 133, 3) := by decide +kernel
theorem dX5_set_68 : decode cX5_set 68 = .ok (.iload_n 1, 1) := by decide +kernel
theorem dX5_set_69 : decode cX5_set 69 = .ok (.iload_n 2, 1) := by decide +kernel
theorem dX5_set_70 : decode cX5_set 70 = .ok (.iastore, 1) := by decide +kernel
theorem dX5_set_71 : decode cX5_set 71 = .ok (.iload_n 3, 1) := by decide +kernel
theorem dX5_set_72 : decode cX5_set 72 = .ok (.ireturn, 1) := by decide +kernel
theorem dX5_move_0 : decode cX5_move 0 = .ok (.aload_n 0, 1) := by decide +kernel
theorem dX5_move_1 : decode cX5_move 1 = .ok (.getfield 10, 3) := by decide +kernel
theorem dX5_move_4 : decode cX5_move 4 = .ok (.iload_n 1, 1) := by decide +kernel
theorem dX5_move_5 : decode cX5_move 5 = .ok (.invokevirtual 49, 3) := by decide +kernel
theorem dX5_move_8 : decode cX5_move 8 = .ok (.ifCond .ne 13, 3) := by decide +kernel
theorem dX5_move_11 : decode cX5_move 11 = .ok (.new 53, 3) := by decide +kernel
theorem dX5_move_14 : decode cX5_move 14 = .ok (.dup, 1) := by decide +kernel
theorem dX5_move_15 : decode cX5_move 15 = .ok (.ldc 55, 2) := by decide +kernel
theorem dX5_move_17 : decode cX5_move 17 = .ok (.invokespecial 57, 3) := by decide +kernel
theorem dX5_move_20 : decode cX5_move 20 = .ok (.athrow, 1) := by decide +kernel
theorem dX5_move_21 : decode cX5_move 21 = .ok (.iload_n 2, 1) := by decide +kernel
theorem dX5_move_22 : decode cX5_move 22 = .ok (.iconst 1, 1) := by decide +kernel
theorem dX5_move_23 : decode cX5_move 23 = .ok (.if_icmp .ge 13, 3) := by decide +kernel
theorem dX5_move_26 : decode cX5_move 26 = .ok (.new 85, 3) := by decide +kernel
theorem dX5_move_29 : decode cX5_move 29 = .ok (.dup, 1) := by decide +kernel
theorem dX5_move_30 : decode cX5_move 30 = .ok (.ldc 136, 2) := by decide +kernel
theorem dX5_move_32 : decode cX5_move 32 = .ok (.invokespecial 89, 3) := by decide +kernel
theorem dX5_move_35 : decode cX5_move 35 = .ok (.athrow, 1) := by decide +kernel
theorem dX5_move_36 : decode cX5_move 36 = .ok (.aload_n 0, 1) := by decide +kernel
theorem dX5_move_37 : decode cX5_move 37 = .ok (.getfield 10, 3) := by decide +kernel
theorem dX5_move_40 : decode cX5_move 40 = .ok (.iload_n 1, 1) := by decide +kernel
theorem dX5_move_41 : decode cX5_move 41 = .ok (.iload_n 2, 1) := by decide +kernel
theorem dX5_move_42 : decode cX5_move 42 = .ok (.invokevirtual 138, 3) := by decide +kernel
theorem dX5_move_45 : decode cX5_move 45 = .ok (.ifCond .ne 13, 3) := by decide +kernel
theorem dX5_move_48 : decode cX5_move 48 = .ok (.new 34, 3) := by decide +kernel
theorem dX5_move_51 : decode cX5_move 51 = .ok (.dup, 1) := by decide +kernel
theorem dX5_move_52 : decode cX5_move 52 = .ok (.ldc 142, 2) := by decide +kernel
theorem dX5_move_54 : decode cX5_move 54 = .ok (.invokespecial 38, 3) := by decide +kernel
theorem dX5_move_57 : decode cX5_move 57 = .ok (.athrow, 1) := by decide +kernel
theorem dX5_move_58 : decode cX5_move 58 = .ok (.aload_n 0, 1) := by decide +kernel
theorem dX5_move_59 : decode cX5_move 59 = .ok (.getfield 19, 3) := by decide +kernel
theorem dX5_move_62 : decode cX5_move 62 = .ok (.aload_n 0, 1) := by decide +kernel
theorem dX5_move_63 : decode cX5_move 63 = .ok (.getfield 10, 3) := by decide +kernel
theorem dX5_move_66 : decode cX5_move 66 = .ok (.invokevirtual 41, 3) := by decide +kernel
theorem dX5_move_69 : decode cX5_move 69 = .ok (.aload_n 0, 1) := by decide +kernel
theorem dX5_move_70 : decode cX5_move 70 = .ok (.getfield 10, 3) := by decide +kernel
theorem dX5_move_73 : decode cX5_move 73 = .ok (.iload_n 1, 1) := by decide +kernel
theorem dX5_move_74 : decode cX5_move 74 = .ok (.iload_n 2, 1) := by decide +kernel
theorem dX5_move_75 : decode cX5_move 75 = .ok (.invokevirtual 144, 3) := by decide +kernel
theorem dX5_move_78 : decode cX5_move 78 = .ok (.aload_n 0, 1) := by decide +kernel
theorem dX5_move_79 : decode cX5_move 79 = .ok (.getfield 10, 3) := by decide +kernel
theorem dX5_move_82 : decode cX5_move 82 = .ok (.invokevirtual 147, 3) := by decide +kernel
theorem dX5_move_85 : decode cX5_move 85 = .ok (.ireturn, 1) := by decide +kernel
theorem dX5_vote_0 : decode cX5_vote 0 = .ok (.aload_n 0, 1) := by decide +kernel
theorem dX5_vote_1 : decode cX5_vote 1 = .ok (.getfield 10, 3) := by decide +kernel
theorem dX5_vote_4 : decode cX5_vote 4 = .ok (.iload_n 1, 1) := by decide +kernel
theorem dX5_vote_5 : decode cX5_vote 5 = .ok (.invokevirtual 49, 3) := by decide +kernel
theorem dX5_vote_8 : decode cX5_vote 8 = .ok (.ifCond .ne 13, 3) := by decide +kernel
theorem dX5_vote_11 : decode cX5_vote 11 = .ok (.new 53, 3) := by decide +kernel
theorem dX5_vote_14 : decode cX5_vote 14 = .ok (.dup, 1) := by decide +kernel
theorem dX5_vote_15 : decode cX5_vote 15 = .ok (.ldc 55, 2) := by decide +kernel
theorem dX5_vote_17 : decode cX5_vote 17 = .ok (.invokespecial 57, 3) := by decide +kernel
theorem dX5_vote_20 : decode cX5_vote 20 = .ok (.athrow, 1) := by decide +kernel
theorem dX5_vote_21 : decode cX5_vote 21 = .ok (.aload_n 0, 1) := by decide +kernel
theorem dX5_vote_22 : decode cX5_vote 22 = .ok (.getfield 10, 3) := by decide +kernel
theorem dX5_vote_25 : decode cX5_vote 25 = .ok (.iload_n 1, 1) := by decide +kernel
theorem dX5_vote_26 : decode cX5_vote 26 = .ok (.invokevirtual 150, 3) := by decide +kernel
theorem dX5_vote_29 : decode cX5_vote 29 = .ok (.ifCond .ne 13, 3) := by decide +kernel
theorem dX5_vote_32 : decode cX5_vote 32 = .ok (.new 34, 3) := by decide +kernel
theorem dX5_vote_35 : decode cX5_vote 35 = .ok (.dup, 1) := by decide +kernel
theorem dX5_vote_36 : decode cX5_vote 36 = .ok (.ldc 153, 2) := by decide +kernel
theorem dX5_vote_38 : decode cX5_vote 38 = .ok (.invokespecial 38, 3) := by decide +kernel
theorem dX5_vote_41 : decode cX5_vote 41 = .ok (.athrow, 1) := by decide +kernel
theorem dX5_vote_42 : decode cX5_vote 42 = .ok (.aload_n 0, 1) := by decide +kernel
theorem dX5_vote_43 : decode cX5_vote 43 = .ok (.getfield 19, 3) := by decide +kernel
theorem dX5_vote_46 : decode cX5_vote 46 = .ok (.aload_n 0, 1) := by decide +kernel
theorem dX5_vote_47 : decode cX5_vote 47 = .ok (.getfield 10, 3) := by decide +kernel
theorem dX5_vote_50 : decode cX5_vote 50 = .ok (.invokevirtual 41, 3) := by decide +kernel
theorem dX5_vote_53 : decode cX5_vote 53 = .ok (.aload_n 0, 1) := by decide +kernel
theorem dX5_vote_54 : decode cX5_vote 54 = .ok (.getfield 10, 3) := by decide +kernel
theorem dX5_vote_57 : decode cX5_vote 57 = .ok (.getfield 58, 3) := by decide +kernel
theorem dX5_vote_60 : decode cX5_vote 60 = .ok (.iload_n 1, 1) := by decide +kernel
theorem dX5_vote_61 : decode cX5_vote 61 = .ok (.aaload, 1) := by decide +kernel
theorem dX5_vote_62 : decode cX5_vote 62 = .ok (.iload_n 2, 1) := by decide +kernel
theorem dX5_vote_63 : decode cX5_vote 63 = .ok (.ifCond .eq 7, 3) := by decide +kernel
theorem dX5_vote_66 : decode cX5_vote 66 = .ok (.iconst 1, 1) := by decide +kernel
theorem dX5_vote_67 : decode cX5_vote 67 = .ok (.goto 4, 3) := by decide +kernel
theorem dX5_vote_70 : decode cX5_vote 70 = .ok (.iconst 2, 1) := by decide +kernel
theorem dX5_vote_71 : decode cX5_vote 71 = .ok (.putfield 155, 3) := by decide +kernel
theorem dX5_vote_74 : decode cX5_vote 74 = .ok (.aload_n 0, 1) := by decide +kernel
theorem dX5_vote_75 : decode cX5_vote 75 = .ok (.getfield 10, 3) := by decide +kernel
theorem dX5_vote_78 : decode cX5_vote 78 = .ok (.invokevirtual 158, 3) := by decide +kernel
theorem dX5_vote_81 : decode cX5_vote 81 = .ok (.ireturn, 1) := by decide +kernel
theorem dX5_takeBack_0 : decode cX5_takeBack 0 = .ok (.aload_n 0, 1) := by decide +kernel
theorem dX5_takeBack_1 : decode cX5_takeBack 1 = .ok (.getfield 10, 3) := by decide +kernel
theorem dX5_takeBack_4 : decode cX5_takeBack 4 = .ok (.invokevirtual 161, 3) := by decide +kernel
theorem dX5_takeBack_7 : decode cX5_takeBack 7 = .ok (.ifCond .ne 13, 3) := by decide +kernel
theorem dX5_takeBack_10 : decode cX5_takeBack 10 = .ok (.new 34, 3) := by decide +kernel
theorem dX5_takeBack_13 : decode cX5_takeBack 13 = .ok (.dup, 1) := by decide +kernel
theorem dX5_takeBack_14 : decode cX5_takeBack 14 = .ok (.ldc 165, 2) := by decide +kernel
theorem dX5_takeBack_16 : decode cX5_takeBack 16 = .ok (.invokespecial 38, 3) := by decide +kernel
theorem dX5_takeBack_19 : decode cX5_takeBack 19 = .ok (.athrow, 1) := by decide +kernel
theorem dX5_takeBack_20 : decode cX5_takeBack 20 = .ok (.aload_n 0, 1) := by decide +kernel
theorem dX5_takeBack_21 : decode cX5_takeBack 21 = .ok (.getfield 19, 3) := by decide +kernel
theorem dX5_takeBack_24 : decode cX5_takeBack 24 = .ok (.aload_n 0, 1) := by decide +kernel
theorem dX5_takeBack_25 : decode cX5_takeBack 25 = .ok (.getfield 10, 3) := by decide +kernel
theorem dX5_takeBack_28 : decode cX5_takeBack 28 = .ok (.invokevirtual 41, 3) := by decide +kernel
theorem dX5_takeBack_31 : decode cX5_takeBack 31 = .ok (.aload_n 0, 1) := by decide +kernel
theorem dX5_takeBack_32 : decode cX5_takeBack 32 = .ok (.getfield 10, 3) := by decide +kernel
theorem dX5_takeBack_35 : decode cX5_takeBack 35 = .ok (.iconst 1, 1) := by decide +kernel
theorem dX5_takeBack_36 : decode cX5_takeBack 36 = .ok (.invokevirtual 167, 3) := by decide +kernel
theorem dX5_takeBack_39 : decode cX5_takeBack 39 = .ok (.aload_n 0, 1) := by decide +kernel
theorem dX5_takeBack_40 : decode cX5_takeBack 40 = .ok (.getfield 10, 3) := by decide +kernel
theorem dX5_takeBack_43 : decode cX5_takeBack 43 = .ok (.iconst 2, 1) := by decide +kernel
theorem dX5_takeBack_44 : decode cX5_takeBack 44 = .ok (.invokevirtual 167, 3) := by decide +kernel
theorem dX5_takeBack_47 : decode cX5_takeBack 47 = .ok (.iadd, 1) := by decide +kernel
theorem dX5_takeBack_48 : decode cX5_takeBack 48 = .ok (.istore_n 1, 1) := by decide +kernel
theorem dX5_takeBack_49 : decode cX5_takeBack 49 = .ok (.aload_n 0, 1) := by decide +kernel
theorem dX5_takeBack_50 : decode cX5_takeBack 50 = .ok (.getfield 10, 3) := by decide +kernel
theorem dX5_takeBack_53 : decode cX5_takeBack 53 = .ok (.invokevirtual 170, 3) := by decide +kernel
theorem dX5_takeBack_56 : decode cX5_takeBack 56 = .ok (.iload_n 1, 1) := by decide +kernel
theorem dX5_takeBack_57 : decode cX5_takeBack 57 = .ok (.ireturn, 1) := by decide +kernel
theorem dX5_append_0 : decode cX5_append 0 = .ok (.iload_n 1, 1) := by decide +kernel
theorem dX5_append_1 : decode cX5_append 1 = .ok (.bipush 33, 2) := by decide +kernel
theorem dX5_append_3 : decode cX5_append 3 = .ok (.bipush 126, 2) := by decide +kernel
theorem dX5_append_5 : decode cX5_append 5 = .ok (.invokestatic 100, 3) := by decide +kernel
theorem dX5_append_8 : decode cX5_append 8 = .ok (.ifCond .ne 13, 3) := by decide +kernel
theorem dX5_append_11 : decode cX5_append 11 = .ok (.new 85, 3) := by decide +kernel
theorem dX5_append_14 : decode cX5_append 14 = .ok (.dup, 1) := by decide +kernel
theorem dX5_append_15 : decode cX5_append 15 = .ok (.ldc 173, 2) := by decide +kernel
theorem dX5_append_17 : decode cX5_append 17 = .ok (.invokespecial 89, 3) := by decide +kernel
theorem dX5_append_20 : decode cX5_append 20 = .ok (.athrow, 1) := by decide +kernel
theorem dX5_append_21 : decode cX5_append 21 = .ok (.aload_n 0, 1) := by decide +kernel
theorem dX5_append_22 : decode cX5_append 22 = .ok (.getfield 26, 3) := by decide +kernel
theorem dX5_append_25 : decode cX5_append 25 = .ok (.getfield 175, 3) := by decide +kernel
theorem dX5_append_28 : decode cX5_append 28 = .ok (.bipush 60, 2) := by decide +kernel
theorem dX5_append_30 : decode cX5_append 30 = .ok (.if_icmp .lt 13, 3) := by decide +kernel
theorem dX5_append_33 : decode cX5_append 33 = .ok (.new 34, 3) := by decide +kernel
theorem dX5_append_36 : decode cX5_append 36 = .ok (.dup, 1) := by decide +kernel
theorem dX5_append_37 : decode cX5_append 37 = .ok (.ldc 178, 2) := by decide +kernel
theorem dX5_append_39 : decode cX5_append 39 = .ok (.invokespecial 38, 3) := by decide +kernel
theorem dX5_append_42 : decode cX5_append 42 = .ok (.athrow, 1) := by decide +kernel
theorem dX5_append_43 : decode cX5_append 43 = .ok (.aload_n 0, 1) := by decide +kernel
theorem dX5_append_44 : decode cX5_append 44 = .ok (.getfield 26, 3) := by decide +kernel
theorem dX5_append_47 : decode cX5_append 47 = .ok (.iload_n 1, 1) := by decide +kernel
theorem dX5_append_48 : decode cX5_append 48 = .ok (.i2c, 1) := by decide +kernel
theorem dX5_append_49 : decode cX5_append 49 = .ok (.invokevirtual 180, 3) := by decide +kernel
theorem dX5_append_52 : decode cX5_append 52 = .ok (.aload_n 0, 1) := by decide +kernel
theorem dX5_append_53 : decode cX5_append 53 = .ok (.getfield 26, 3) := by decide +kernel
theorem dX5_append_56 : decode cX5_append 56 = .ok (.getfield 175, 3) := by decide +kernel
theorem dX5_append_59 : decode cX5_append 59 = .ok (.ireturn, 1) := by decide +kernel
theorem dX5_clearBuffer_0 : decode cX5_clearBuffer 0 = .ok (.aload_n 0, 1) := by decide +kernel
theorem dX5_clearBuffer_1 : decode cX5_clearBuffer 1 = .ok (.getfield 26, 3) := by decide +kernel
theorem dX5_clearBuffer_4 : decode cX5_clearBuffer 4 = .ok (.getfield 175, 3) := by decide +kernel
theorem dX5_clearBuffer_7 : decode cX5_clearBuffer 7 = .ok (.istore_n 1, 1) := by decide +kernel
theorem dX5_clearBuffer_8 : decode cX5_clearBuffer 8 = .ok (.aload_n 0, 1) := by decide +kernel
theorem dX5_clearBuffer_9 : decode cX5_clearBuffer 9 = .ok (.getfield 26, 3) := by decide +kernel
theorem dX5_clearBuffer_12 : decode cX5_clearBuffer 12 = .ok (.iconst 0, 1) := by decide +kernel
theorem dX5_clearBuffer_13 : decode cX5_clearBuffer 13 = .ok (.putfield 175, 3) := by decide +kernel
theorem dX5_clearBuffer_16 : decode cX5_clearBuffer 16 = .ok (.iload_n 1, 1) := by decide +kernel
theorem dX5_clearBuffer_17 : decode cX5_clearBuffer 17 = .ok (.ireturn, 1) := by decide +kernel
theorem dX5_firstError_0 : decode cX5_firstError 0 = .ok (.aload_n 0, 1) := by decide +kernel
theorem dX5_firstError_1 : decode cX5_firstError 1 = .ok (.getfield 26, 3) := by decide +kernel
theorem dX5_firstError_4 : decode cX5_firstError 4 = .ok (.invokevirtual 184, 3) := by decide +kernel
theorem dX5_firstError_7 : decode cX5_firstError 7 = .ok (.ireturn, 1) := by decide +kernel
theorem dX5_run_0 : decode cX5_run 0 = .ok (.aload_n 0, 1) := by decide +kernel
theorem dX5_run_1 : decode cX5_run 1 = .ok (.getfield 26, 3) := by decide +kernel
theorem dX5_run_4 : decode cX5_run 4 = .ok (.invokevirtual 187, 3) := by decide +kernel
theorem dX5_run_7 : decode cX5_run 7 = .ok (.ifCond .ne 13, 3) := by decide +kernel
theorem dX5_run_10 : decode cX5_run 10 = .ok (.new 85, 3) := by decide +kernel
theorem dX5_run_13 : decode cX5_run 13 = .ok (.dup, 1) := by decide +kernel
theorem dX5_run_14 : decode cX5_run 14 = .ok (.ldc 190, 2) := by decide +kernel
theorem dX5_run_16 : decode cX5_run 16 = .ok (.invokespecial 89, 3) := by decide +kernel
theorem dX5_run_19 : decode cX5_run 19 = .ok (.athrow, 1) := by decide +kernel
theorem dX5_run_20 : decode cX5_run 20 = .ok (.aload_n 0, 1) := by decide +kernel
theorem dX5_run_21 : decode cX5_run 21 = .ok (.getfield 19, 3) := by decide +kernel
theorem dX5_run_24 : decode cX5_run 24 = .ok (.aload_n 0, 1) := by decide +kernel
theorem dX5_run_25 : decode cX5_run 25 = .ok (.getfield 10, 3) := by decide +kernel
theorem dX5_run_28 : decode cX5_run 28 = .ok (.invokevirtual 41, 3) := by decide +kernel
theorem dX5_run_31 : decode cX5_run 31 = .ok (.aload_n 0, 1) := by decide +kernel
theorem dX5_run_32 : decode cX5_run 32 = .ok (.getfield 26, 3) := by decide +kernel
theorem dX5_run_35 : decode cX5_run 35 = .ok (.aload_n 0, 1) := by decide +kernel
theorem dX5_run_36 : decode cX5_run 36 = .ok (.getfield 10, 3) := by decide +kernel
theorem dX5_run_39 : decode cX5_run 39 = .ok (.invokevirtual 192, 3) := by decide +kernel
theorem dX5_run_42 : decode cX5_run 42 = .ok (.istore_n 1, 1) := by decide +kernel
theorem dX5_run_43 : decode cX5_run 43 = .ok (.aload_n 0, 1) := by decide +kernel
theorem dX5_run_44 : decode cX5_run 44 = .ok (.getfield 26, 3) := by decide +kernel
theorem dX5_run_47 : decode cX5_run 47 = .ok (.iconst 0, 1) := by decide +kernel
theorem dX5_run_48 : decode cX5_run 48 = .ok (.putfield 175, 3) := by decide +kernel
theorem dX5_run_51 : decode cX5_run 51 = .ok (.iload_n 1, 1) := by decide +kernel
theorem dX5_run_52 : decode cX5_run 52 = .ok (.ireturn, 1) := by decide +kernel
theorem dX5_undo_0 : decode cX5_undo 0 = .ok (.aload_n 0, 1) := by decide +kernel
theorem dX5_undo_1 : decode cX5_undo 1 = .ok (.getfield 19, 3) := by decide +kernel
theorem dX5_undo_4 : decode cX5_undo 4 = .ok (.getfield 196, 3) := by decide +kernel
theorem dX5_undo_7 : decode cX5_undo 7 = .ok (.iconst 1, 1) := by decide +kernel
theorem dX5_undo_8 : decode cX5_undo 8 = .ok (.if_icmp .ge 13, 3) := by decide +kernel
theorem dX5_undo_11 : decode cX5_undo 11 = .ok (.new 34, 3) := by decide +kernel
theorem dX5_undo_14 : decode cX5_undo 14 = .ok (.dup, 1) := by decide +kernel
theorem dX5_undo_15 : decode cX5_undo 15 = .ok (.ldc 199, 2) := by decide +kernel
theorem dX5_undo_17 : decode cX5_undo 17 = .ok (.invokespecial 38, 3) := by decide +kernel
theorem dX5_undo_20 : decode cX5_undo 20 = .ok (.athrow, 1) := by decide +kernel
theorem dX5_undo_21 : decode cX5_undo 21 = .ok (.aload_n 0, 1) := by decide +kernel
theorem dX5_undo_22 : decode cX5_undo 22 = .ok (.getfield 19, 3) := by decide +kernel
theorem dX5_undo_25 : decode cX5_undo 25 = .ok (.aload_n 0, 1) := by decide +kernel
theorem dX5_undo_26 : decode cX5_undo 26 = .ok (.getfield 10, 3) := by decide +kernel
theorem dX5_undo_29 : decode cX5_undo 29 = .ok (.invokevirtual 201, 3) := by decide +kernel
theorem dX5_undo_32 : decode cX5_undo 32 = .ok (.aload_n 0, 1) := by decide +kernel
theorem dX5_undo_33 : decode cX5_undo 33 = .ok (.getfield 19, 3) := by decide +kernel
theorem dX5_undo_36 : decode cX5_undo 36 = .ok (.getfield 196, 3) := by decide +kernel
theorem dX5_undo_39 : decode cX5_undo 39 = .ok (.ireturn, 1) := by decide +kernel
theorem dX5_member_0 : decode cX5_member 0 = .ok (.aload_n 0, 1) := by decide +kernel
theorem dX5_member_1 : decode cX5_member 1 = .ok (.getfield 10, 3) := by decide +kernel
theorem dX5_member_4 : decode cX5_member 4 = .ok (.iload_n 1, 1) := by decide +kernel
theorem dX5_member_5 : decode cX5_member 5 = .ok (.invokevirtual 49, 3) := by decide +kernel
theorem dX5_member_8 : decode cX5_member 8 = .ok (.ifCond .ne 13, 3) := by decide +kernel
theorem dX5_member_11 : decode cX5_member 11 = .ok (.new 53, 3) := by decide +kernel
theorem dX5_member_14 : decode cX5_member 14 = .ok (.dup, 1) := by decide +kernel
theorem dX5_member_15 : decode cX5_member 15 = .ok (.ldc 55, 2) := by decide +kernel
theorem dX5_member_17 : decode cX5_member 17 = .ok (.invokespecial 57, 3) := by decide +kernel
theorem dX5_member_20 : decode cX5_member 20 = .ok (.athrow, 1) := by decide +kernel
theorem dX5_member_21 : decode cX5_member 21 = .ok (.iload_n 2, 1) := by decide +kernel
theorem dX5_member_22 : decode cX5_member 22 = .ok (.iconst 0, 1) := by decide +kernel
theorem dX5_member_23 : decode cX5_member 23 = .ok (.bipush 11, 2) := by decide +kernel
theorem dX5_member_25 : decode cX5_member 25 = .ok (.invokestatic 100, 3) := by decide +kernel
theorem dX5_member_28 : decode cX5_member 28 = .ok (.ifCond .ne 13, 3) := by decide +kernel
theorem dX5_member_31 : decode cX5_member 31 = .ok (.new 85, 3) := by decide +kernel
theorem dX5_member_34 : decode cX5_member 34 = .ok (.dup, 1) := by decide +kernel
theorem dX5_member_35 : decode cX5_member 35 = .ok (.ldc 204, 2) := by decide +kernel
theorem dX5_member_37 : decode cX5_member 37 = .ok (.invokespecial 89, 3) := by decide +kernel
theorem dX5_member_40 : decode cX5_member 40 = .ok (.athrow, 1) := by decide +kernel
theorem dX5_member_41 : decode cX5_member 41 = .ok (.aload_n 0, 1) := by decide +kernel
theorem dX5_member_42 : decode cX5_member 42 = .ok (.getfield 10, 3) := by decide +kernel
theorem dX5_member_45 : decode cX5_member 45 = .ok (.iload_n 1, 1) := by decide +kernel
theorem dX5_member_46 : decode cX5_member 46 = .ok (.iload_n 2, 1) := by decide +kernel
theorem dX5_member_47 : decode cX5_member 47 = .ok (.invokevirtual 206, 3) := by decide +kernel
theorem dX5_member_50 : decode cX5_member 50 = .ok (.ireturn, 1) := by decide +kernel
theorem dX5_skill_0 : decode cX5_skill 0 = .ok (.aload_n 0, 1) := by decide +kernel
theorem dX5_skill_1 : decode cX5_skill 1 = .ok (.getfield 10, 3) := by decide +kernel
theorem dX5_skill_4 : decode cX5_skill 4 = .ok (.iload_n 1, 1) := by decide +kernel
theorem dX5_skill_5 : decode cX5_skill 5 = .ok (.invokevirtual 49, 3) := by decide +kernel
theorem dX5_skill_8 : decode cX5_skill 8 = .ok (.ifCond .eq 10, 3) := by decide +kernel
theorem dX5_skill_11 : decode cX5_skill 11 = .ok (.iload_n 2, 1) := by decide +kernel
theorem dX5_skill_12 : decode cX5_skill 12 = .ok (.invokestatic 77, 3) := by decide +kernel
theorem dX5_skill_15 : decode cX5_skill 15 = .ok (.ifCond .ne 13, 3) := by decide +kernel
theorem dX5_skill_18 : decode cX5_skill 18 = .ok (.new 53, 3) := by decide +kernel
theorem dX5_skill_21 : decode cX5_skill 21 = .ok (.dup, 1) := by decide +kernel
theorem dX5_skill_22 : decode cX5_skill 22 = .ok (.ldc 80, 2) := by decide +kernel
theorem dX5_skill_24 : decode cX5_skill 24 = .ok (.invokespecial 57, 3) := by decide +kernel
theorem dX5_skill_27 : decode cX5_skill 27 = .ok (.athrow, 1) := by decide +kernel
theorem dX5_skill_28 : decode cX5_skill 28 = .ok (.iload_n 3, 1) := by decide +kernel
theorem dX5_skill_29 : decode cX5_skill 29 = .ok (.iconst 0, 1) := by decide +kernel
theorem dX5_skill_30 : decode cX5_skill 30 = .ok (.iconst 1, 1) := by decide +kernel
theorem dX5_skill_31 : decode cX5_skill 31 = .ok (.invokestatic 100, 3) := by decide +kernel
theorem dX5_skill_34 : decode cX5_skill 34 = .ok (.ifCond .ne 13, 3) := by decide +kernel
theorem dX5_skill_37 : decode cX5_skill 37 = .ok (.new 85, 3) := by decide +kernel
theorem dX5_skill_40 : decode cX5_skill 40 = .ok (.dup, 1) := by decide +kernel
theorem dX5_skill_41 : decode cX5_skill 41 = .ok (.ldc 210, 2) := by decide +kernel
theorem dX5_skill_43 : decode cX5_skill 43 = .ok (.invokespecial 89, 3) := by decide +kernel
theorem dX5_skill_46 : decode cX5_skill 46 = .ok (.athrow, 1) := by decide +kernel
theorem dX5_skill_47 : decode cX5_skill 47 = .ok (.iload_n 3, 1) := by decide +kernel
theorem dX5_skill_48 : decode cX5_skill 48 = .ok (.ifCond .ne 20, 3) := by decide +kernel
theorem dX5_skill_51 : decode cX5_skill 51 = .ok (.aload_n 0, 1) := by decide +kernel
theorem dX5_skill_52 : decode cX5_skill 52 = .ok (.getfield 10, 3) := by decide +kernel
theorem dX5_skill_55 : decode cX5_skill 55 = .ok (.getfield 58, 3) := by decide +kernel
theorem dX5_skill_58 : decode cX5_skill 58 = .ok (.iload_n 1, 1) := by decide +kernel
theorem dX5_skill_59 : decode cX5_skill 59 = .ok (.aaload, 1) := by decide +kernel
theorem dX5_skill_60 : decode cX5_skill 60 = .ok (.getfield 212, 3) := by decide +kernel
theorem dX5_skill_63 : decode cX5_skill 63 = .ok (.iload_n 2, 1) := by decide +kernel
theorem dX5_skill_64 : decode cX5_skill 64 = .ok (.iaload, 1) := by decide +kernel
theorem dX5_skill_65 : decode cX5_skill 65 = .ok (.goto 16, 3) := by decide +kernel
theorem dX5_skill_68 : decode cX5_skill 68 = .ok (.aload_n 0, 1) := by decide +kernel
theorem dX5_skill_69 : decode cX5_skill 69 = .ok (.getfield 10, 3) := by decide +kernel
theorem dX5_skill_72 : decode cX5_skill 72 = .ok (.getfield 58, 3) := by decide +kernel
theorem dX5_skill_75 : decode cX5_skill 75 = .ok (.iload_n 1, 1) := by decide +kernel
theorem dX5_skill_76 : decode cX5_skill 76 = .ok (.aaload, 1) := by decide +kernel
theorem dX5_skill_77 : decode cX5_skill 77 = .ok (.iload_n 2, 1) := by decide +kernel
theorem dX5_skill_78 : decode cX5_skill 78 = .ok (.invokevirtual 215, 3) := by decide +kernel
theorem dX5_skill_81 : decode cX5_skill 81 = .ok (.ireturn, 1) := by decide +kernel
theorem dX5_count_0 : decode cX5_count 0 = .ok (.iload_n 1, 1) := by decide +kernel
theorem dX5_count_1 : decode cX5_count 1 = .ok (.iconst 0, 1) := by decide +kernel
theorem dX5_count_2 : decode cX5_count 2 = .ok (.bipush 13, 2) := by decide +kernel
theorem dX5_count_4 : decode cX5_count 4 = .ok (.invokestatic 100, 3) := by decide +kernel
theorem dX5_count_7 : decode cX5_count 7 = .ok (.ifCond .ne 13, 3) := by decide +kernel
theorem dX5_count_10 : decode cX5_count 10 = .ok (.new 85, 3) := by decide +kernel
theorem dX5_count_13 : decode cX5_count 13 = .ok (.dup, 1) := by decide +kernel
theorem dX5_count_14 : decode cX5_count 14 = .ok (.ldc 218, 2) := by decide +kernel
theorem dX5_count_16 : decode cX5_count 16 = .ok (.invokespecial 89, 3) := by decide +kernel
theorem dX5_count_19 : decode cX5_count 19 = .ok (.athrow, 1) := by decide +kernel
theorem dX5_count_20 : decode cX5_count 20 = .ok (.aload_n 0, 1) := by decide +kernel
theorem dX5_count_21 : decode cX5_count 21 = .ok (.iload_n 1, 1) := by decide +kernel
theorem dX5_count_22 : decode cX5_count 22 = .ok (.invokevirtual 220, 3) := by decide +kernel
theorem dX5_count_25 : decode cX5_count 25 = .ok (.ireturn, 1) := by decide +kernel
theorem dX5_setting_0 : decode cX5_setting 0 = .ok (.iload_n 1, 1) := by decide +kernel
theorem dX5_setting_1 : decode cX5_setting 1 = .ok (.invokestatic 122, 3) := by decide +kernel
theorem dX5_setting_4 : decode cX5_setting 4 = .ok (.ifCond .ne 13, 3) := by decide +kernel
theorem dX5_setting_7 : decode cX5_setting 7 = .ok (.new 53, 3) := by decide +kernel
theorem dX5_setting_10 : decode cX5_setting 10 = .ok (.dup, 1) := by decide +kernel
theorem dX5_setting_11 : decode cX5_setting 11 = .ok (.ldc 125, 2) := by decide +kernel
theorem dX5_setting_13 : decode cX5_setting 13 = .ok (.invokespecial 57, 3) := by decide +kernel
theorem dX5_setting_16 : decode cX5_setting 16 = .ok (.athrow, 1) := by decide +kernel
theorem dX5_setting_17 : decode cX5_setting 17 = .ok (.aload_n 0, 1) := by decide +kernel
theorem dX5_setting_18 : decode cX5_setting 18 = .ok (.getfield 10, 3) := by decide +kernel
theorem dX5_setting_21 : decode cX5_setting 21 = .ok (.getfield 133, 3) := by decide +kernel
theorem dX5_setting_24 : decode cX5_setting 24 = .ok (.iload_n 1, 1) := by decide +kernel
theorem dX5_setting_25 : decode cX5_setting 25 = .ok (.iaload, 1) := by decide +kernel
theorem dX5_setting_26 : decode cX5_setting 26 = .ok (.ireturn, 1) := by decide +kernel
theorem dX5_worth_0 : decode cX5_worth 0 = .ok (.aload_n 0, 1) := by decide +kernel
theorem dX5_worth_1 : decode cX5_worth 1 = .ok (.getfield 10, 3) := by decide +kernel
theorem dX5_worth_4 : decode cX5_worth 4 = .ok (.iload_n 1, 1) := by decide +kernel
theorem dX5_worth_5 : decode cX5_worth 5 = .ok (.invokevirtual 49, 3) := by decide +kernel
theorem dX5_worth_8 : decode cX5_worth 8 = .ok (.ifCond .eq 10, 3) := by decide +kernel
theorem dX5_worth_11 : decode cX5_worth 11 = .ok (.iload_n 2, 1) := by decide +kernel
theorem dX5_worth_12 : decode cX5_worth 12 = .ok (.invokestatic 77, 3) := by decide +kernel
theorem dX5_worth_15 : decode cX5_worth 15 = .ok (.ifCond .ne 13, 3) := by decide +kernel
theorem dX5_worth_18 : decode cX5_worth 18 = .ok (.new 53, 3) := by decide +kernel
theorem dX5_worth_21 : decode cX5_worth 21 = .ok (.dup, 1) := by decide +kernel
theorem dX5_worth_22 : decode cX5_worth 22 = .ok (.ldc 80, 2) := by decide +kernel
theorem dX5_worth_24 : decode cX5_worth 24 = .ok (.invokespecial 57, 3) := by decide +kernel
theorem dX5_worth_27 : decode cX5_worth 27 = .ok (.athrow, 1) := by decide +kernel
theorem dX5_worth_28 : decode cX5_worth 28 = .ok (.iload_n 3, 1) := by decide +kernel
theorem dX5_worth_29 : decode cX5_worth 29 = .ok (.invokestatic 82, 3) := by decide +kernel
theorem dX5_worth_32 : decode cX5_worth 32 = .ok (.ifCond .ne 13, 3) := by decide +kernel
theorem dX5_worth_35 : decode cX5_worth 35 = .ok (.new 85, 3) := by decide +kernel
theorem dX5_worth_38 : decode cX5_worth 38 = .ok (.dup, 1) := by decide +kernel
theorem dX5_worth_39 : decode cX5_worth 39 = .ok (.ldc 104, 2) := by decide +kernel
theorem dX5_worth_41 : decode cX5_worth 41 = .ok (.invokespecial 89, 3) := by decide +kernel
theorem dX5_worth_44 : decode cX5_worth 44 = .ok (.athrow, 1) := by decide +kernel
theorem dX5_worth_45 : decode cX5_worth 45 = .ok (.aload_n 0, 1) := by decide +kernel
theorem dX5_worth_46 : decode cX5_worth 46 = .ok (.getfield 10, 3) := by decide +kernel
theorem dX5_worth_49 : decode cX5_worth 49 = .ok (.getfield 58, 3) := by decide +kernel
theorem dX5_worth_52 : decode cX5_worth 52 = .ok (.iload_n 1, 1) := by decide +kernel
theorem dX5_worth_53 : decode cX5_worth 53 = .ok (.aaload, 1) := by decide +kernel
theorem dX5_worth_54 : decode cX5_worth 54 = .ok (.iload_n 2, 1) := by decide +kernel
theorem dX5_worth_55 : decode cX5_worth 55 = .ok (.iload_n 3, 1) := by decide +kernel
theorem dX5_worth_56 : decode cX5_worth 56 = .ok (.invokevirtual 223, 3) := by decide +kernel
theorem dX5_worth_59 : decode cX5_worth 59 = .ok (.ireturn, 1) := by decide +kernel
theorem dX5_longest_0 : decode cX5_longest 0 = .ok (.aload_n 0, 1) := by decide +kernel
theorem dX5_longest_1 : decode cX5_longest 1 = .ok (.getfield 10, 3) := by decide +kernel
theorem dX5_longest_4 : decode cX5_longest 4 = .ok (.iload_n 1, 1) := by decide +kernel
theorem dX5_longest_5 : decode cX5_longest 5 = .ok (.invokevirtual 49, 3) := by decide +kernel
theorem dX5_longest_8 : decode cX5_longest 8 = .ok (.ifCond .eq 21, 3) := by decide +kernel
theorem dX5_longest_11 : decode cX5_longest 11 = .ok (.aload_n 0, 1) := by decide +kernel
theorem dX5_longest_12 : decode cX5_longest 12 = .ok (.getfield 10, 3) := by decide +kernel
theorem dX5_longest_15 : decode cX5_longest 15 = .ok (.iload_n 2, 1) := by decide +kernel
theorem dX5_longest_16 : decode cX5_longest 16 = .ok (.invokevirtual 49, 3) := by decide +kernel
theorem dX5_longest_19 : decode cX5_longest 19 = .ok (.ifCond .eq 10, 3) := by decide +kernel
theorem dX5_longest_22 : decode cX5_longest 22 = .ok (.iload_n 3, 1) := by decide +kernel
theorem dX5_longest_23 : decode cX5_longest 23 = .ok (.invokestatic 77, 3) := by decide +kernel
theorem dX5_longest_26 : decode cX5_longest 26 = .ok (.ifCond .ne 13, 3) := by decide +kernel
theorem dX5_longest_29 : decode cX5_longest 29 = .ok (.new 53, 3) := by decide +kernel
theorem dX5_longest_32 : decode cX5_longest 32 = .ok (.dup, 1) := by decide +kernel
theorem dX5_longest_33 : decode cX5_longest 33 = .ok (.ldc 80, 2) := by decide +kernel
theorem dX5_longest_35 : decode cX5_longest 35 = .ok (.invokespecial 57, 3) := by decide +kernel
theorem dX5_longest_38 : decode cX5_longest 38 = .ok (.athrow, 1) := by decide +kernel
theorem dX5_longest_39 : decode cX5_longest 39 = .ok (.aload_n 0, 1) := by decide +kernel
theorem dX5_longest_40 : decode cX5_longest 40 = .ok (.getfield 10, 3) := by decide +kernel
theorem dX5_longest_43 : decode cX5_longest 43 = .ok (.iload_n 1, 1) := by decide +kernel
theorem dX5_longest_44 : decode cX5_longest 44 = .ok (.iload_n 2, 1) := by decide +kernel
theorem dX5_longest_45 : decode cX5_longest 45 = .ok (.iload_n 3, 1) := by decide +kernel
theorem dX5_longest_46 : decode cX5_longest 46 = .ok (.invokevirtual 226, 3) := by decide +kernel
theorem dX5_longest_49 : decode cX5_longest 49 = .ok (.ireturn, 1) := by decide +kernel
theorem dX5_cheapest_0 : decode cX5_cheapest 0 = .ok (.aload_n 0, 1) := by decide +kernel
theorem dX5_cheapest_1 : decode cX5_cheapest 1 = .ok (.getfield 10, 3) := by decide +kernel
theorem dX5_cheapest_4 : decode cX5_cheapest 4 = .ok (.iload_n 1, 1) := by decide +kernel
theorem dX5_cheapest_5 : decode cX5_cheapest 5 = .ok (.invokevirtual 49, 3) := by decide +kernel
theorem dX5_cheapest_8 : decode cX5_cheapest 8 = .ok (.ifCond .eq 10, 3) := by decide +kernel
theorem dX5_cheapest_11 : decode cX5_cheapest 11 = .ok (.iload_n 2, 1) := by decide +kernel
theorem dX5_cheapest_12 : decode cX5_cheapest 12 = .ok (.invokestatic 77, 3) := by decide +kernel
theorem dX5_cheapest_15 : decode cX5_cheapest 15 = .ok (.ifCond .ne 13, 3) := by decide +kernel
theorem dX5_cheapest_18 : decode cX5_cheapest 18 = .ok (.new 53, 3) := by decide +kernel
theorem dX5_cheapest_21 : decode cX5_cheapest 21 = .ok (.dup, 1) := by decide +kernel
theorem dX5_cheapest_22 : decode cX5_cheapest 22 = .ok (.ldc 80, 2) := by decide +kernel
theorem dX5_cheapest_24 : decode cX5_cheapest 24 = .ok (.invokespecial 57, 3) := by decide +kernel
theorem dX5_cheapest_27 : decode cX5_cheapest 27 = .ok (.athrow, 1) := by decide +kernel
theorem dX5_cheapest_28 : decode cX5_cheapest 28 = .ok (.iload_n 3, 1) := by decide +kernel
theorem dX5_cheapest_29 : decode cX5_cheapest 29 = .ok (.invokestatic 82, 3) := by decide +kernel
theorem dX5_cheapest_32 : decode cX5_cheapest 32 = .ok (.ifCond .ne 13, 3) := by decide +kernel
theorem dX5_cheapest_35 : decode cX5_cheapest 35 = .ok (.new 85, 3) := by decide +kernel
theorem dX5_cheapest_38 : decode cX5_cheapest 38 = .ok (.dup, 1) := by decide +kernel
theorem dX5_cheapest_39 : decode cX5_cheapest 39 = .ok (.ldc 104, 2) := by decide +kernel
theorem dX5_cheapest_41 : decode cX5_cheapest 41 = .ok (.invokespecial 89, 3) := by decide +kernel
theorem dX5_cheapest_44 : decode cX5_cheapest 44 = .ok (.athrow, 1) := by decide +kernel
theorem dX5_cheapest_45 : decode cX5_cheapest 45 = .ok (.aload_n 0, 1) := by decide +kernel
theorem dX5_cheapest_46 : decode cX5_cheapest 46 = .ok (.getfield 10, 3) := by decide +kernel
theorem dX5_cheapest_49 : decode cX5_cheapest 49 = .ok (.iload_n 1, 1) := by decide +kernel
theorem dX5_cheapest_50 : decode cX5_cheapest 50 = .ok (.iload_n 2, 1) := by decide +kernel
theorem dX5_cheapest_51 : decode cX5_cheapest 51 = .ok (.iload_n 3, 1) := by decide +kernel
theorem dX5_cheapest_52 : decode cX5_cheapest 52 = .ok (.invokevirtual 230, 3) := by decide +kernel
theorem dX5_cheapest_55 : decode cX5_cheapest 55 = .ok (.ireturn, 1) := by decide +kernel
theorem dX5_decayIn_0 : decode cX5_decayIn 0 = .ok (.aload_n 0, 1) := by decide +kernel
theorem dX5_decayIn_1 : decode cX5_decayIn 1 = .ok (.getfield 10, 3) := by decide +kernel
theorem dX5_decayIn_4 : decode cX5_decayIn 4 = .ok (.iload_n 1, 1) := by decide +kernel
theorem dX5_decayIn_5 : decode cX5_decayIn 5 = .ok (.invokevirtual 49, 3) := by decide +kernel
theorem dX5_decayIn_8 : decode cX5_decayIn 8 = .ok (.ifCond .ne 13, 3) := by decide +kernel
theorem dX5_decayIn_11 : decode cX5_decayIn 11 = .ok (.new 53, 3) := by decide +kernel
theorem dX5_decayIn_14 : decode cX5_decayIn 14 = .ok (.dup, 1) := by decide +kernel
theorem dX5_decayIn_15 : decode cX5_decayIn 15 = .ok (.ldc 55, 2) := by decide +kernel
theorem dX5_decayIn_17 : decode cX5_decayIn 17 = .ok (.invokespecial 57, 3) := by decide +kernel
theorem dX5_decayIn_20 : decode cX5_decayIn 20 = .ok (.athrow, 1) := by decide +kernel
theorem dX5_decayIn_21 : decode cX5_decayIn 21 = .ok (.iload_n 2, 1) := by decide +kernel
theorem dX5_decayIn_22 : decode cX5_decayIn 22 = .ok (.iconst 0, 1) := by decide +kernel
theorem dX5_decayIn_23 : decode cX5_decayIn 23 = .ok (.bipush 100, 2) := by decide +kernel
theorem dX5_decayIn_25 : decode cX5_decayIn 25 = .ok (.invokestatic 100, 3) := by decide +kernel
theorem dX5_decayIn_28 : decode cX5_decayIn 28 = .ok (.ifCond .ne 13, 3) := by decide +kernel
theorem dX5_decayIn_31 : decode cX5_decayIn 31 = .ok (.new 85, 3) := by decide +kernel
theorem dX5_decayIn_34 : decode cX5_decayIn 34 = .ok (.dup, 1) := by decide +kernel
theorem dX5_decayIn_35 : decode cX5_decayIn 35 = .ok (.ldc 112, 2) := by decide +kernel
theorem dX5_decayIn_37 : decode cX5_decayIn 37 = .ok (.invokespecial 89, 3) := by decide +kernel
theorem dX5_decayIn_40 : decode cX5_decayIn 40 = .ok (.athrow, 1) := by decide +kernel
theorem dX5_decayIn_41 : decode cX5_decayIn 41 = .ok (.aload_n 0, 1) := by decide +kernel
theorem dX5_decayIn_42 : decode cX5_decayIn 42 = .ok (.getfield 10, 3) := by decide +kernel
theorem dX5_decayIn_45 : decode cX5_decayIn 45 = .ok (.iload_n 1, 1) := by decide +kernel
theorem dX5_decayIn_46 : decode cX5_decayIn 46 = .ok (.iload_n 2, 1) := by decide +kernel
theorem dX5_decayIn_47 : decode cX5_decayIn 47 = .ok (.invokevirtual 233, 3) := by decide +kernel
theorem dX5_decayIn_50 : decode cX5_decayIn 50 = .ok (.ireturn, 1) := by decide +kernel
theorem dX5_votesNeeded_0 : decode cX5_votesNeeded 0 = .ok (.aload_n 0, 1) := by decide +kernel
theorem dX5_votesNeeded_1 : decode cX5_votesNeeded 1 = .ok (.getfield 10, 3) := by decide +kernel
theorem dX5_votesNeeded_4 : decode cX5_votesNeeded 4 = .ok (.invokevirtual 236, 3) := by decide +kernel
theorem dX5_votesNeeded_7 : decode cX5_votesNeeded 7 = .ok (.ireturn, 1) := by decide +kernel
theorem dX5_ripest_0 : decode cX5_ripest 0 = .ok (.iload_n 1, 1) := by decide +kernel
theorem dX5_ripest_1 : decode cX5_ripest 1 = .ok (.invokestatic 77, 3) := by decide +kernel
theorem dX5_ripest_4 : decode cX5_ripest 4 = .ok (.ifCond .ne 13, 3) := by decide +kernel
theorem dX5_ripest_7 : decode cX5_ripest 7 = .ok (.new 53, 3) := by decide +kernel
theorem dX5_ripest_10 : decode cX5_ripest 10 = .ok (.dup, 1) := by decide +kernel
theorem dX5_ripest_11 : decode cX5_ripest 11 = .ok (.ldc 239, 2) := by decide +kernel
theorem dX5_ripest_13 : decode cX5_ripest 13 = .ok (.invokespecial 57, 3) := by decide +kernel
theorem dX5_ripest_16 : decode cX5_ripest 16 = .ok (.athrow, 1) := by decide +kernel
theorem dX5_ripest_17 : decode cX5_ripest 17 = .ok (.aload_n 0, 1) := by decide +kernel
theorem dX5_ripest_18 : decode cX5_ripest 18 = .ok (.getfield 10, 3) := by decide +kernel
theorem dX5_ripest_21 : decode cX5_ripest 21 = .ok (.iload_n 1, 1) := by decide +kernel
theorem dX5_ripest_22 : decode cX5_ripest 22 = .ok (.invokevirtual 241, 3) := by decide +kernel
theorem dX5_ripest_25 : decode cX5_ripest 25 = .ok (.ireturn, 1) := by decide +kernel
theorem dX5_minuteWorth_0 : decode cX5_minuteWorth 0 = .ok (.aload_n 0, 1) := by decide +kernel
theorem dX5_minuteWorth_1 : decode cX5_minuteWorth 1 = .ok (.getfield 10, 3) := by decide +kernel
theorem dX5_minuteWorth_4 : decode cX5_minuteWorth 4 = .ok (.invokevirtual 244, 3) := by decide +kernel
theorem dX5_minuteWorth_7 : decode cX5_minuteWorth 7 = .ok (.dreturn, 1) := by decide +kernel
theorem dX5_digest_0 : decode cX5_digest 0 = .ok (.ldc2_w 248, 3) := by decide +kernel
theorem dX5_digest_3 : decode cX5_digest 3 = .ok (.lstore_n 1, 1) := by decide +kernel
theorem dX5_digest_4 : decode cX5_digest 4 = .ok (.iconst 0, 1) := by decide +kernel
theorem dX5_digest_5 : decode cX5_digest 5 = .ok (.istore_n 3, 1) := by decide +kernel
theorem dX5_digest_6 : decode cX5_digest 6 = .ok (.iload_n 3, 1) := by decide +kernel
theorem dX5_digest_7 : decode cX5_digest 7 = .ok (.bipush 14, 2) := by decide +kernel
theorem dX5_digest_9 : decode cX5_digest 9 = .ok (.if_icmp .ge 20, 3) := by decide +kernel
theorem dX5_digest_12 : decode cX5_digest 12 = .ok (.lload_n 1, 1) := by decide +kernel
theorem dX5_digest_13 : decode cX5_digest 13 = .ok (.aload_n 0, 1) := by decide +kernel
theorem dX5_digest_14 : decode cX5_digest 14 = .ok (.iload_n 3, 1) := by decide +kernel
theorem dX5_digest_15 : decode cX5_digest 15 = .ok (.invokevirtual 220, 3) := by decide +kernel
theorem dX5_digest_18 : decode cX5_digest 18 = .ok (.i2l, 1) := by decide +kernel
theorem dX5_digest_19 : decode cX5_digest 19 = .ok (.invokestatic 250, 3) := by decide +kernel
theorem dX5_digest_22 : decode cX5_digest 22 = .ok (.lstore_n 1, 1) := by decide +kernel
theorem dX5_digest_23 : decode cX5_digest 23 = .ok (.iinc 3 1, 3) := by decide +kernel
theorem dX5_digest_26 : decode cX5_digest 26 = .ok (.goto (-20), 3) := by decide +kernel
theorem dX5_digest_29 : decode cX5_digest 29 = .ok (.iconst 0, 1) := by decide +kernel
theorem dX5_digest_30 : decode cX5_digest 30 = .ok (.istore_n 3, 1) := by decide +kernel
theorem dX5_digest_31 : decode cX5_digest 31 = .ok (.iload_n 3, 1) := by decide +kernel
theorem dX5_digest_32 : decode cX5_digest 32 = .ok (.iconst 5, 1) := by decide +kernel
theorem dX5_digest_33 : decode cX5_digest 33 = .ok (.if_icmp .ge 24, 3) := by decide +kernel
theorem dX5_digest_36 : decode cX5_digest 36 = .ok (.lload_n 1, 1) := by decide +kernel
theorem dX5_digest_37 : decode cX5_digest 37 = .ok (.aload_n 0, 1) := by decide +kernel
theorem dX5_digest_38 : decode cX5_digest 38 = .ok (.getfield 10, 3) := by decide +kernel
theorem dX5_digest_41 : decode cX5_digest 41 = .ok (.getfield 133, 3) := by decide +kernel
theorem dX5_digest_44 : decode cX5_digest 44 = .ok (.iload_n 3, 1) := by decide +kernel
theorem dX5_digest_45 : decode cX5_digest 45 = .ok (.iaload, 1) := by decide +kernel
theorem dX5_digest_46 : decode cX5_digest 46 = .ok (.i2l, 1) := by decide +kernel
theorem dX5_digest_47 : decode cX5_digest 47 = .ok (.invokestatic 250, 3) := by decide +kernel
theorem dX5_digest_50 : decode cX5_digest 50 = .ok (.lstore_n 1, 1) := by decide +kernel
theorem dX5_digest_51 : decode cX5_digest 51 = .ok (.iinc 3 1, 3) := by decide +kernel
theorem dX5_digest_54 : decode cX5_digest 54 = .ok (.goto (-23), 3) := by decide +kernel
theorem dX5_digest_57 : decode cX5_digest 57 = .ok (.iconst 0, 1) := by decide +kernel
theorem dX5_digest_58 : decode cX5_digest 58 = .ok (.istore_n 3, 1) := by decide +kernel
theorem dX5_digest_59 : decode cX5_digest 59 = .ok (.iload_n 3, 1) := by decide +kernel
theorem dX5_digest_60 : decode cX5_digest 60 = .ok (.aload_n 0, 1) := by decide +kernel
theorem dX5_digest_61 : decode cX5_digest 61 = .ok (.getfield 10, 3) := by decide +kernel
theorem dX5_digest_64 : decode cX5_digest 64 = .ok (.getfield 30, 3) := by decide +kernel
theorem dX5_digest_67 : decode cX5_digest 67 = .ok (.if_icmp .ge 16, 3) := by decide +kernel
theorem dX5_digest_70 : decode cX5_digest 70 = .ok (.aload_n 0, 1) := by decide +kernel
theorem dX5_digest_71 : decode cX5_digest 71 = .ok (.lload_n 1, 1) := by decide +kernel
theorem dX5_digest_72 : decode cX5_digest 72 = .ok (.iload_n 3, 1) := by decide +kernel
theorem dX5_digest_73 : decode cX5_digest 73 = .ok (.invokevirtual 254, 3) := by decide +kernel
theorem dX5_digest_76 : decode cX5_digest 76 = .ok (.lstore_n 1, 1) := by decide +kernel
theorem dX5_digest_77 : decode cX5_digest 77 = .ok (.iinc 3 1, 3) := by decide +kernel
theorem dX5_digest_80 : decode cX5_digest 80 = .ok (.goto (-21), 3) := by decide +kernel
theorem dX5_digest_83 : decode cX5_digest 83 = .ok (.iconst 0, 1) := by decide +kernel
theorem dX5_digest_84 : decode cX5_digest 84 = .ok (.istore_n 3, 1) := by decide +kernel
theorem dX5_digest_85 : decode cX5_digest 85 = .ok (.iload_n 3, 1) := by decide +kernel
theorem dX5_digest_86 : decode cX5_digest 86 = .ok (.iconst 5, 1) := by decide +kernel
theorem dX5_digest_87 : decode cX5_digest 87 = .ok (.if_icmp .ge 23, 3) := by decide +kernel
theorem dX5_digest_90 : decode cX5_digest 90 = .ok (.lload_n 1, 1) := by decide +kernel
theorem dX5_digest_91 : decode cX5_digest 91 = .ok (.aload_n 0, 1) := by decide +kernel
theorem dX5_digest_92 : decode cX5_digest 92 = .ok (.getfield 10, 3) := by decide +kernel
theorem dX5_digest_95 : decode cX5_digest 95 = .ok (.iload_n 3, 1) := by decide +kernel
theorem dX5_digest_96 : decode cX5_digest 96 = .ok (.invokevirtual 241, 3) := by decide +kernel
theorem dX5_digest_99 : decode cX5_digest 99 = .ok (.i2l, 1) := by decide +kernel
theorem dX5_digest_100 : decode cX5_digest 100 = .ok (.invokestatic 250, 3) := by decide +kernel
theorem dX5_digest_103 : decode cX5_digest 103 = .ok (.lstore_n 1, 1) := by decide +kernel
theorem dX5_digest_104 : decode cX5_digest 104 = .ok (.iinc 3 1, 3) := by decide +kernel
theorem dX5_digest_107 : decode cX5_digest 107 = .ok (.goto (-22), 3) := by decide +kernel
theorem dX5_digest_110 : decode cX5_digest 110 = .ok (.lload_n 1, 1) := by decide +kernel
theorem dX5_digest_111 : decode cX5_digest 111 = .ok (.aload_n 0, 1) := by decide +kernel
theorem dX5_digest_112 : decode cX5_digest 112 = .ok (.getfield 10, 3) := by decide +kernel
theorem dX5_digest_115 : decode cX5_digest 115 = .ok (.invokevirtual 236, 3) := by decide +kernel
theorem dX5_digest_118 : decode cX5_digest 118 = .ok (.i2l, 1) := by decide +kernel
theorem dX5_digest_119 : decode cX5_digest 119 = .ok (.invokestatic 250, 3) := by decide +kernel
theorem dX5_digest_122 : decode cX5_digest 122 = .ok (.lstore_n 1, 1) := by decide +kernel
theorem dX5_digest_123 : decode cX5_digest 123 = .ok (.lload_n 1, 1) := by decide +kernel
theorem dX5_digest_124 : decode cX5_digest 124 = .ok (.aload_n 0, 1) := by decide +kernel
theorem dX5_digest_125 : decode cX5_digest 125 = .ok (.getfield 10, 3) := by decide +kernel
theorem dX5_digest_128 : decode cX5_digest 128 = .ok (.invokevirtual 244, 3) := by decide +kernel
theorem dX5_digest_131 : decode cX5_digest 131 = .ok (.invokestatic 258, 3) := by decide +kernel
theorem dX5_digest_134 : decode cX5_digest 134 = .ok (.invokestatic 250, 3) := by decide +kernel
theorem dX5_digest_137 : decode cX5_digest 137 = .ok (.lstore_n 1, 1) := by decide +kernel
theorem dX5_digest_138 : decode cX5_digest 138 = .ok (.aload_n 0, 1) := by decide +kernel
theorem dX5_digest_139 : decode cX5_digest 139 = .ok (.lload_n 1, 1) := by decide +kernel
theorem dX5_digest_140 : decode cX5_digest 140 = .ok (.invokevirtual 262, 3) := by decide +kernel
theorem dX5_digest_143 : decode cX5_digest 143 = .ok (.lreturn, 1) := by decide +kernel
theorem dX5_mixedMember_0 : decode cX5_mixedMember 0 = .ok (.lload_n 1, 1) := by decide +kernel
theorem dX5_mixedMember_1 : decode cX5_mixedMember 1 = .ok (.lstore 4, 2) := by decide +kernel
theorem dX5_mixedMember_3 : decode cX5_mixedMember 3 = .ok (.iconst 0, 1) := by decide +kernel
theorem dX5_mixedMember_4 : decode cX5_mixedMember 4 = .ok (.istore 6, 2) := by decide +kernel
theorem dX5_mixedMember_6 : decode cX5_mixedMember 6 = .ok (.iload 6, 2) := by decide +kernel
theorem dX5_mixedMember_8 : decode cX5_mixedMember 8 = .ok (.bipush 12, 2) := by decide +kernel
theorem dX5_mixedMember_10 : decode cX5_mixedMember 10 = .ok (.if_icmp .ge 27, 3) := by decide +kernel
theorem dX5_mixedMember_13 : decode cX5_mixedMember 13 = .ok (.lload 4, 2) := by decide +kernel
theorem dX5_mixedMember_15 : decode cX5_mixedMember 15 = .ok (.aload_n 0, 1) := by decide +kernel
theorem dX5_mixedMember_16 : decode cX5_mixedMember 16 = .ok (.getfield 10, 3) := by decide +kernel
theorem dX5_mixedMember_19 : decode cX5_mixedMember 19 = .ok (.iload_n 3, 1) := by decide +kernel
theorem dX5_mixedMember_20 : decode cX5_mixedMember 20 = .ok (.iload 6, 2) := by decide +kernel
theorem dX5_mixedMember_22 : decode cX5_mixedMember 22 = .ok (.invokevirtual 206, 3) := by decide +kernel
theorem dX5_mixedMember_25 : decode cX5_mixedMember 25 = .ok (.i2l, 1) := by decide +kernel
theorem dX5_mixedMember_26 : decode cX5_mixedMember 26 = .ok (.invokestatic 250, 3) := by decide +kernel
theorem dX5_mixedMember_29 : decode cX5_mixedMember 29 = .ok (.lstore 4, 2) := by decide +kernel
theorem dX5_mixedMember_31 : decode cX5_mixedMember 31 = .ok (.iinc 6 1, 3) := by decide +kernel
theorem dX5_mixedMember_34 : decode cX5_mixedMember 34 = .ok (.goto (-28), 3) := by decide +kernel
theorem dX5_mixedMember_37 : decode cX5_mixedMember 37 = .ok (.iconst 0, 1) := by decide +kernel
theorem dX5_mixedMember_38 : decode cX5_mixedMember 38 = .ok (.istore 6, 2) := by decide +kernel
theorem dX5_mixedMember_40 : decode cX5_mixedMember 40 = .ok (.iload 6, 2) := by decide +kernel
theorem dX5_mixedMember_42 : decode cX5_mixedMember 42 = .ok (.iconst 5, 1) := by decide +kernel
theorem dX5_mixedMember_43 : decode cX5_mixedMember 43 = .ok (.if_icmp .ge 54, 3) := by decide +kernel
theorem dX5_mixedMember_46 : decode cX5_mixedMember 46 = .ok (.lload 4, 2) := by decide +kernel
theorem dX5_mixedMember_48 : decode cX5_mixedMember 48 = .ok (.aload_n 0, 1) := by decide +kernel
theorem dX5_mixedMember_49 : decode cX5_mixedMember 49 = .ok (.getfield 10, 3) := by decide +kernel
theorem dX5_mixedMember_52 : decode cX5_mixedMember 52 = .ok (.getfield 58, 3) := by decide +kernel
theorem dX5_mixedMember_55 : decode cX5_mixedMember 55 = .ok (.iload_n 3, 1) := by decide +kernel
theorem dX5_mixedMember_56 : decode cX5_mixedMember 56 = .ok (.aaload, 1) := by decide +kernel
theorem dX5_mixedMember_57 : decode cX5_mixedMember 57 = .ok (.getfield 212, 3) := by decide +kernel
theorem dX5_mixedMember_60 : decode cX5_mixedMember 60 = .ok (.iload 6, 2) := by decide +kernel
theorem dX5_mixedMember_62 : decode cX5_mixedMember 62 = .ok (.iaload, 1) := by decide +kernel
theorem dX5_mixedMember_63 : decode cX5_mixedMember 63 = .ok (.i2l, 1) := by decide +kernel
theorem dX5_mixedMember_64 : decode cX5_mixedMember 64 = .ok (.invokestatic 250, 3) := by decide +kernel
theorem dX5_mixedMember_67 : decode cX5_mixedMember 67 = .ok (.lstore 4, 2) := by decide +kernel
theorem dX5_mixedMember_69 : decode cX5_mixedMember 69 = .ok (.lload 4, 2) := by decide +kernel
theorem dX5_mixedMember_71 : decode cX5_mixedMember 71 = .ok (.aload_n 0, 1) := by decide +kernel
theorem dX5_mixedMember_72 : decode cX5_mixedMember 72 = .ok (.getfield 10, 3) := by decide +kernel
theorem dX5_mixedMember_75 : decode cX5_mixedMember 75 = .ok (.getfield 58, 3) := by decide +kernel
theorem dX5_mixedMember_78 : decode cX5_mixedMember 78 = .ok (.iload_n 3, 1) := by decide +kernel
theorem dX5_mixedMember_79 : decode cX5_mixedMember 79 = .ok (.aaload, 1) := by decide +kernel
theorem dX5_mixedMember_80 : decode cX5_mixedMember 80 = .ok (.iload 6, 2) := by decide +kernel
theorem dX5_mixedMember_82 : decode cX5_mixedMember 82 = .ok (.invokevirtual 215, 3) := by decide +kernel
theorem dX5_mixedMember_85 : decode cX5_mixedMember 85 = .ok (.i2l, 1) := by decide +kernel
theorem dX5_mixedMember_86 : decode cX5_mixedMember 86 = .ok (.invokestatic 250, 3) := by decide +kernel
theorem dX5_mixedMember_89 : decode cX5_mixedMember 89 = .ok (.lstore 4, 2) := by decide +kernel
theorem dX5_mixedMember_91 : decode cX5_mixedMember 91 = .ok (.iinc 6 1, 3) := by decide +kernel
theorem dX5_mixedMember_94 : decode cX5_mixedMember 94 = .ok (.goto (-54), 3) := by decide +kernel
theorem dX5_mixedMember_97 : decode cX5_mixedMember 97 = .ok (.lload 4, 2) := by decide +kernel
theorem dX5_mixedMember_99 : decode cX5_mixedMember 99 = .ok (.aload_n 0, 1) := by decide +kernel
theorem dX5_mixedMember_100 : decode cX5_mixedMember 100 = .ok (.getfield 10, 3) := by decide +kernel
theorem dX5_mixedMember_103 : decode cX5_mixedMember 103 = .ok (.iload_n 3, 1) := by decide +kernel
theorem dX5_mixedMember_104 : decode cX5_mixedMember 104 = .ok (.iconst 0, 1) := by decide +kernel
theorem dX5_mixedMember_105 : decode cX5_mixedMember 105 = .ok (.iconst 1, 1) := by decide +kernel
theorem dX5_mixedMember_106 : decode cX5_mixedMember 106 = .ok (.invokevirtual 226, 3) := by decide +kernel
theorem dX5_mixedMember_109 : decode cX5_mixedMember 109 = .ok (.i2l, 1) := by decide +kernel
theorem dX5_mixedMember_110 : decode cX5_mixedMember 110 = .ok (.invokestatic 250, 3) := by decide +kernel
theorem dX5_mixedMember_113 : decode cX5_mixedMember 113 = .ok (.lstore 4, 2) := by decide +kernel
theorem dX5_mixedMember_115 : decode cX5_mixedMember 115 = .ok (.lload 4, 2) := by decide +kernel
theorem dX5_mixedMember_117 : decode cX5_mixedMember 117 = .ok (.aload_n 0, 1) := by decide +kernel
theorem dX5_mixedMember_118 : decode cX5_mixedMember 118 = .ok (.getfield 10, 3) := by decide +kernel
theorem dX5_mixedMember_121 : decode cX5_mixedMember 121 = .ok (.iload_n 3, 1) := by decide +kernel
theorem dX5_mixedMember_122 : decode cX5_mixedMember 122 = .ok (.iconst 1, 1) := by decide +kernel
theorem dX5_mixedMember_123 : decode cX5_mixedMember 123 = .ok (.bipush 60, 2) := by decide +kernel
theorem dX5_mixedMember_125 : decode cX5_mixedMember 125 = .ok (.invokevirtual 230, 3) := by decide +kernel
theorem dX5_mixedMember_128 : decode cX5_mixedMember 128 = .ok (.i2l, 1) := by decide +kernel
theorem dX5_mixedMember_129 : decode cX5_mixedMember 129 = .ok (.invokestatic 250, 3) := by decide +kernel
theorem dX5_mixedMember_132 : decode cX5_mixedMember 132 = .ok (.lstore 4, 2) := by decide +kernel
theorem dX5_mixedMember_134 : decode cX5_mixedMember 134 = .ok (.lload 4, 2) := by decide +kernel
theorem dX5_mixedMember_136 : decode cX5_mixedMember 136 = .ok (.aload_n 0, 1) := by decide +kernel
theorem dX5_mixedMember_137 : decode cX5_mixedMember 137 = .ok (.getfield 10, 3) := by decide +kernel
theorem dX5_mixedMember_140 : decode cX5_mixedMember 140 = .ok (.iload_n 3, 1) := by decide +kernel
theorem dX5_mixedMember_141 : decode cX5_mixedMember 141 = .ok (.bipush 10, 2) := by decide +kernel
theorem dX5_mixedMember_143 : decode cX5_mixedMember 143 = .ok (.invokevirtual 233, 3) := by decide +kernel
theorem dX5_mixedMember_146 : decode cX5_mixedMember 146 = .ok (.i2l, 1) := by decide +kernel
theorem dX5_mixedMember_147 : decode cX5_mixedMember 147 = .ok (.invokestatic 250, 3) := by decide +kernel
theorem dX5_mixedMember_150 : decode cX5_mixedMember 150 = .ok (.lreturn, 1) := by decide +kernel
theorem dX5_mixedText_0 : decode cX5_mixedText 0 = .ok (.lload_n 1, 1) := by decide +kernel
theorem dX5_mixedText_1 : decode cX5_mixedText 1 = .ok (.aload_n 0, 1) := by decide +kernel
theorem dX5_mixedText_2 : decode cX5_mixedText 2 = .ok (.getfield 26, 3) := by decide +kernel
theorem dX5_mixedText_5 : decode cX5_mixedText 5 = .ok (.getfield 175, 3) := by decide +kernel
theorem dX5_mixedText_8 : decode cX5_mixedText 8 = .ok (.i2l, 1) := by decide +kernel
theorem dX5_mixedText_9 : decode cX5_mixedText 9 = .ok (.invokestatic 250, 3) := by decide +kernel
theorem dX5_mixedText_12 : decode cX5_mixedText 12 = .ok (.lstore_n 3, 1) := by decide +kernel
theorem dX5_mixedText_13 : decode cX5_mixedText 13 = .ok (.iconst 0, 1) := by decide +kernel
theorem dX5_mixedText_14 : decode cX5_mixedText 14 = .ok (.istore 5, 2) := by decide +kernel
theorem dX5_mixedText_16 : decode cX5_mixedText 16 = .ok (.iload 5, 2) := by decide +kernel
theorem dX5_mixedText_18 : decode cX5_mixedText 18 = .ok (.aload_n 0, 1) := by decide +kernel
theorem dX5_mixedText_19 : decode cX5_mixedText 19 = .ok (.getfield 26, 3) := by decide +kernel
theorem dX5_mixedText_22 : decode cX5_mixedText 22 = .ok (.getfield 175, 3) := by decide +kernel
theorem dX5_mixedText_25 : decode cX5_mixedText 25 = .ok (.if_icmp .ge 25, 3) := by decide +kernel
theorem dX5_mixedText_28 : decode cX5_mixedText 28 = .ok (.lload_n 3, 1) := by decide +kernel
theorem dX5_mixedText_29 : decode cX5_mixedText 29 = .ok (.aload_n 0, 1) := by decide +kernel
theorem dX5_mixedText_30 : decode cX5_mixedText 30 = .ok (.getfield 26, 3) := by decide +kernel
theorem dX5_mixedText_33 : decode cX5_mixedText 33 = .ok (.getfield 266, 3) := by decide +kernel
theorem dX5_mixedText_36 : decode cX5_mixedText 36 = .ok (.iload 5, 2) := by decide +kernel
theorem dX5_mixedText_38 : decode cX5_mixedText 38 = .ok (.caload, 1) := by decide +kernel
theorem dX5_mixedText_39 : decode cX5_mixedText 39 = .ok (.i2l, 1) := by decide +kernel
theorem dX5_mixedText_40 : decode cX5_mixedText 40 = .ok (.invokestatic 250, 3) := by decide +kernel
theorem dX5_mixedText_43 : decode cX5_mixedText 43 = .ok (.lstore_n 3, 1) := by decide +kernel
theorem dX5_mixedText_44 : decode cX5_mixedText 44 = .ok (.iinc 5 1, 3) := by decide +kernel
theorem dX5_mixedText_47 : decode cX5_mixedText 47 = .ok (.goto (-31), 3) := by decide +kernel
theorem dX5_mixedText_50 : decode cX5_mixedText 50 = .ok (.lload_n 3, 1) := by decide +kernel
theorem dX5_mixedText_51 : decode cX5_mixedText 51 = .ok (.lreturn, 1) := by decide +kernel
theorem dX5_number_0 : decode cX5_number 0 = .ok (.iload_n 1, 1) := by decide +kernel
theorem dX5_number_1 : decode cX5_number 1 = .ok (.tableswitch 173 0 12 #[67, 75, 83, 91, 99, 107, 115, 123, 131, 139, 147, 155, 164], 67) := by decide +kernel
theorem dX5_number_68 : decode cX5_number 68 = .ok (.aload_n 0, 1) := by decide +kernel
theorem dX5_number_69 : decode cX5_number 69 = .ok (.getfield 10, 3) := by decide +kernel
theorem dX5_number_72 : decode cX5_number 72 = .ok (.getfield 30, 3) := by decide +kernel
theorem dX5_number_75 : decode cX5_number 75 = .ok (.ireturn, 1) := by decide +kernel
theorem dX5_number_76 : decode cX5_number 76 = .ok (.aload_n 0, 1) := by decide +kernel
theorem dX5_number_77 : decode cX5_number 77 = .ok (.getfield 10, 3) := by decide +kernel
theorem dX5_number_80 : decode cX5_number 80 = .ok (.invokevirtual 270, 3) := by decide +kernel
theorem dX5_number_83 : decode cX5_number 83 = .ok (.ireturn, 1) := by decide +kernel
theorem dX5_number_84 : decode cX5_number 84 = .ok (.aload_n 0, 1) := by decide +kernel
theorem dX5_number_85 : decode cX5_number 85 = .ok (.getfield 10, 3) := by decide +kernel
theorem dX5_number_88 : decode cX5_number 88 = .ok (.getfield 273, 3) := by decide +kernel
theorem dX5_number_91 : decode cX5_number 91 = .ok (.ireturn, 1) := by decide +kernel
theorem dX5_number_92 : decode cX5_number 92 = .ok (.aload_n 0, 1) := by decide +kernel
theorem dX5_number_93 : decode cX5_number 93 = .ok (.getfield 10, 3) := by decide +kernel
theorem dX5_number_96 : decode cX5_number 96 = .ok (.getfield 276, 3) := by decide +kernel
theorem dX5_number_99 : decode cX5_number 99 = .ok (.ireturn, 1) := by decide +kernel
theorem dX5_number_100 : decode cX5_number 100 = .ok (.aload_n 0, 1) := by decide +kernel
theorem dX5_number_101 : decode cX5_number 101 = .ok (.getfield 10, 3) := by decide +kernel
theorem dX5_number_104 : decode cX5_number 104 = .ok (.getfield 114, 3) := by decide +kernel
theorem dX5_number_107 : decode cX5_number 107 = .ok (.ireturn, 1) := by decide +kernel
theorem dX5_number_108 : decode cX5_number 108 = .ok (.aload_n 0, 1) := by decide +kernel
theorem dX5_number_109 : decode cX5_number 109 = .ok (.getfield 10, 3) := by decide +kernel
theorem dX5_number_112 : decode cX5_number 112 = .ok (.getfield 279, 3) := by decide +kernel
theorem dX5_number_115 : decode cX5_number 115 = .ok (.ireturn, 1) := by decide +kernel
theorem dX5_number_116 : decode cX5_number 116 = .ok (.aload_n 0, 1) := by decide +kernel
theorem dX5_number_117 : decode cX5_number 117 = .ok (.getfield 10, 3) := by decide +kernel
theorem dX5_number_120 : decode cX5_number 120 = .ok (.invokevirtual 282, 3) := by decide +kernel
theorem dX5_number_123 : decode cX5_number 123 = .ok (.ireturn, 1) := by decide +kernel
theorem dX5_number_124 : decode cX5_number 124 = .ok (.aload_n 0, 1) := by decide +kernel
theorem dX5_number_125 : decode cX5_number 125 = .ok (.getfield 10, 3) := by decide +kernel
theorem dX5_number_128 : decode cX5_number 128 = .ok (.invokevirtual 285, 3) := by decide +kernel
theorem dX5_number_131 : decode cX5_number 131 = .ok (.ireturn, 1) := by decide +kernel
theorem dX5_number_132 : decode cX5_number 132 = .ok (.aload_n 0, 1) := by decide +kernel
theorem dX5_number_133 : decode cX5_number 133 = .ok (.getfield 10, 3) := by decide +kernel
theorem dX5_number_136 : decode cX5_number 136 = .ok (.invokevirtual 288, 3) := by decide +kernel
theorem dX5_number_139 : decode cX5_number 139 = .ok (.ireturn, 1) := by decide +kernel
theorem dX5_number_140 : decode cX5_number 140 = .ok (.aload_n 0, 1) := by decide +kernel
theorem dX5_number_141 : decode cX5_number 141 = .ok (.getfield 10, 3) := by decide +kernel
theorem dX5_number_144 : decode cX5_number 144 = .ok (.getfield 291, 3) := by decide +kernel
theorem dX5_number_147 : decode cX5_number 147 = .ok (.ireturn, 1) := by decide +kernel
theorem dX5_number_148 : decode cX5_number 148 = .ok (.aload_n 0, 1) := by decide +kernel
theorem dX5_number_149 : decode cX5_number 149 = .ok (.getfield 10, 3) := by decide +kernel
theorem dX5_number_152 : decode cX5_number 152 = .ok (.getfield 294, 3) := by decide +kernel
theorem dX5_number_155 : decode cX5_number 155 = .ok (.ireturn, 1) := by decide +kernel
theorem dX5_number_156 : decode cX5_number 156 = .ok (.aload_n 0, 1) := by decide +kernel
theorem dX5_number_157 : decode cX5_number 157 = .ok (.getfield 10, 3) := by decide +kernel
theorem dX5_number_160 : decode cX5_number 160 = .ok (.iconst 1, 1) := by decide +kernel
theorem dX5_number_161 : decode cX5_number 161 = .ok (.invokevirtual 167, 3) := by decide +kernel
theorem dX5_number_164 : decode cX5_number 164 = .ok (.ireturn, 1) := by decide +kernel
theorem dX5_number_165 : decode cX5_number 165 = .ok (.aload_n 0, 1) := by decide +kernel
theorem dX5_number_166 : decode cX5_number 166 = .ok (.getfield 10, 3) := by decide +kernel
theorem dX5_number_169 : decode cX5_number 169 = .ok (.iconst 2, 1) := by decide +kernel
theorem dX5_number_170 : decode cX5_number 170 = .ok (.invokevirtual 167, 3) := by decide +kernel
theorem dX5_number_173 : decode cX5_number 173 = .ok (.ireturn, 1) := by decide +kernel
theorem dX5_number_174 : decode cX5_number 174 = .ok (.aload_n 0, 1) := by decide +kernel
theorem dX5_number_175 : decode cX5_number 175 = .ok (.getfield 19, 3) := by decide +kernel
theorem dX5_number_178 : decode cX5_number 178 = .ok (.getfield 196, 3) := by decide +kernel
theorem dX5_number_181 : decode cX5_number 181 = .ok (.ireturn, 1) := by decide +kernel
theorem dX5_mixed_0 : decode cX5_mixed 0 = .ok (.ldc2_w 297, 3) := by decide +kernel
theorem dX5_mixed_3 : decode cX5_mixed 3 = .ok (.lload_n 0, 1) := by decide +kernel
theorem dX5_mixed_4 : decode cX5_mixed 4 = .ok (.lmul, 1) := by decide +kernel
theorem dX5_mixed_5 : decode cX5_mixed 5 = .ok (.lload_n 2, 1) := by decide +kernel
theorem dX5_mixed_6 : decode cX5_mixed 6 = .ok (.ladd, 1) := by decide +kernel
theorem dX5_mixed_7 : decode cX5_mixed 7 = .ok (.lreturn, 1) := by decide +kernel
theorem dX5_bitsOfWorth_0 : decode cX5_bitsOfWorth 0 = .ok (.ldc2_w 299, 3) := by decide +kernel
theorem dX5_bitsOfWorth_3 : decode cX5_bitsOfWorth 3 = .ok (.dload_n 0, 1) := by decide +kernel
theorem dX5_bitsOfWorth_4 : decode cX5_bitsOfWorth 4 = .ok (.dconst 1, 1) := by decide +kernel
theorem dX5_bitsOfWorth_5 : decode cX5_bitsOfWorth 5 = .ok (.dsub, 1) := by decide +kernel
theorem dX5_bitsOfWorth_6 : decode cX5_bitsOfWorth 6 = .ok (.ldc2_w 301, 3) := by decide +kernel
theorem dX5_bitsOfWorth_9 : decode cX5_bitsOfWorth 9 = .ok (.dmul, 1) := by decide +kernel
theorem dX5_bitsOfWorth_10 : decode cX5_bitsOfWorth 10 = .ok (.d2l, 1) := by decide +kernel
theorem dX5_bitsOfWorth_11 : decode cX5_bitsOfWorth 11 = .ok (.ladd, 1) := by decide +kernel
theorem dX5_bitsOfWorth_12 : decode cX5_bitsOfWorth 12 = .ok (.lreturn, 1) := by decide +kernel
theorem dX5_isWithin_0 : decode cX5_isWithin 0 = .ok (.iload_n 0, 1) := by decide +kernel
theorem dX5_isWithin_1 : decode cX5_isWithin 1 = .ok (.iload_n 1, 1) := by decide +kernel
theorem dX5_isWithin_2 : decode cX5_isWithin 2 = .ok (.if_icmp .lt 12, 3) := by decide +kernel
theorem dX5_isWithin_5 : decode cX5_isWithin 5 = .ok (.iload_n 0, 1) := by decide +kernel
theorem dX5_isWithin_6 : decode cX5_isWithin 6 = .ok (.iload_n 2, 1) := by decide +kernel
theorem dX5_isWithin_7 : decode cX5_isWithin 7 = .ok (.if_icmp .gt 7, 3) := by decide +kernel
theorem dX5_isWithin_10 : decode cX5_isWithin 10 = .ok (.iconst 1, 1) := by decide +kernel
theorem dX5_isWithin_11 : decode cX5_isWithin 11 = .ok (.goto 4, 3) := by decide +kernel
theorem dX5_isWithin_14 : decode cX5_isWithin 14 = .ok (.iconst 0, 1) := by decide +kernel
theorem dX5_isWithin_15 : decode cX5_isWithin 15 = .ok (.ireturn, 1) := by decide +kernel
theorem dX5_isSkill_0 : decode cX5_isSkill 0 = .ok (.iload_n 0, 1) := by decide +kernel
theorem dX5_isSkill_1 : decode cX5_isSkill 1 = .ok (.iconst 0, 1) := by decide +kernel
theorem dX5_isSkill_2 : decode cX5_isSkill 2 = .ok (.iconst 4, 1) := by decide +kernel
theorem dX5_isSkill_3 : decode cX5_isSkill 3 = .ok (.invokestatic 100, 3) := by decide +kernel
theorem dX5_isSkill_6 : decode cX5_isSkill 6 = .ok (.ireturn, 1) := by decide +kernel
theorem dX5_isSetting_0 : decode cX5_isSetting 0 = .ok (.iload_n 0, 1) := by decide +kernel
theorem dX5_isSetting_1 : decode cX5_isSetting 1 = .ok (.iconst 0, 1) := by decide +kernel
theorem dX5_isSetting_2 : decode cX5_isSetting 2 = .ok (.iconst 4, 1) := by decide +kernel
theorem dX5_isSetting_3 : decode cX5_isSetting 3 = .ok (.invokestatic 100, 3) := by decide +kernel
theorem dX5_isSetting_6 : decode cX5_isSetting 6 = .ok (.ireturn, 1) := by decide +kernel
theorem dX5_isDealMinutes_0 : decode cX5_isDealMinutes 0 = .ok (.iload_n 0, 1) := by decide +kernel
theorem dX5_isDealMinutes_1 : decode cX5_isDealMinutes 1 = .ok (.iconst 1, 1) := by decide +kernel
theorem dX5_isDealMinutes_2 : decode cX5_isDealMinutes 2 = .ok (.sipush 600, 3) := by decide +kernel
theorem dX5_isDealMinutes_5 : decode cX5_isDealMinutes 5 = .ok (.invokestatic 100, 3) := by decide +kernel
theorem dX5_isDealMinutes_8 : decode cX5_isDealMinutes 8 = .ok (.ireturn, 1) := by decide +kernel
theorem dX5_decayingPart_0 : decode cX5_decayingPart 0 = .ok (.iload_n 0, 1) := by decide +kernel
theorem dX5_decayingPart_1 : decode cX5_decayingPart 1 = .ok (.ifCond .le 12, 3) := by decide +kernel
theorem dX5_decayingPart_4 : decode cX5_decayingPart 4 = .ok (.iload_n 0, 1) := by decide +kernel
theorem dX5_decayingPart_5 : decode cX5_decayingPart 5 = .ok (.iload_n 1, 1) := by decide +kernel
theorem dX5_decayingPart_6 : decode cX5_decayingPart 6 = .ok (.imul, 1) := by decide +kernel
theorem dX5_decayingPart_7 : decode cX5_decayingPart 7 = .ok (.bipush 100, 2) := by decide +kernel
theorem dX5_decayingPart_9 : decode cX5_decayingPart 9 = .ok (.idiv, 1) := by decide +kernel
theorem dX5_decayingPart_10 : decode cX5_decayingPart 10 = .ok (.goto 4, 3) := by decide +kernel
theorem dX5_decayingPart_13 : decode cX5_decayingPart 13 = .ok (.iconst 0, 1) := by decide +kernel
theorem dX5_decayingPart_14 : decode cX5_decayingPart 14 = .ok (.ireturn, 1) := by decide +kernel
theorem dX6_init_0 : decode cX6_init 0 = .ok (.aload_n 0, 1) := by decide +kernel
theorem dX6_init_1 : decode cX6_init 1 = .ok (.invokespecial 1, 3) := by decide +kernel
theorem dX6_init_4 : decode cX6_init 4 = .ok (.aload_n 0, 1) := by decide +kernel
theorem dX6_init_5 : decode cX6_init 5 = .ok (.sipush 142, 3) := by decide +kernel
theorem dX6_init_8 : decode cX6_init 8 = .ok (.newarray .int, 2) := by decide +kernel
theorem dX6_init_10 : decode cX6_init 10 = .ok (.putfield 7, 3) := by decide +kernel
theorem dX6_init_13 : decode cX6_init 13 = .ok (.aload_n 0, 1) := by decide +kernel
theorem dX6_init_14 : decode cX6_init 14 = .ok (.sipush 852, 3) := by decide +kernel
theorem dX6_init_17 : decode cX6_init 17 = .ok (.newarray .int, 2) := by decide +kernel
theorem dX6_init_19 : decode cX6_init 19 = .ok (.putfield 13, 3) := by decide +kernel
theorem dX6_init_22 : decode cX6_init 22 = .ok (.aload_n 0, 1) := by decide +kernel
theorem dX6_init_23 : decode cX6_init 23 = .ok (.bipush 60, 2) := by decide +kernel
theorem dX6_init_25 : decode cX6_init 25 = .ok (.newarray .int, 2) := by decide +kernel
theorem dX6_init_27 : decode cX6_init 27 = .ok (.putfield 16, 3) := by decide +kernel
theorem dX6_init_30 : decode cX6_init 30 = .ok (.aload_n 0, 1) := by decide +kernel
theorem dX6_init_31 : decode cX6_init 31 = .ok (.bipush 40, 2) := by decide +kernel
theorem dX6_init_33 : decode cX6_init 33 = .ok (.newarray .int, 2) := by decide +kernel
theorem dX6_init_35 : decode cX6_init 35 = .ok (.putfield 19, 3) := by decide +kernel
theorem dX6_init_38 : decode cX6_init 38 = .ok (.aload_n 0, 1) := by decide +kernel
theorem dX6_init_39 : decode cX6_init 39 = .ok (.sipush 142, 3) := by decide +kernel
theorem dX6_init_42 : decode cX6_init 42 = .ok (.newarray .int, 2) := by decide +kernel
theorem dX6_init_44 : decode cX6_init 44 = .ok (.putfield 22, 3) := by decide +kernel
theorem dX6_init_47 : decode cX6_init 47 = .ok (.aload_n 0, 1) := by decide +kernel
theorem dX6_init_48 : decode cX6_init 48 = .ok (.getfield 7, 3) := by decide +kernel
theorem dX6_init_51 : decode cX6_init 51 = .ok (.iconst 0, 1) := by decide +kernel
theorem dX6_init_52 : decode cX6_init 52 = .ok (.sipush 600, 3) := by decide +kernel
theorem dX6_init_55 : decode cX6_init 55 = .ok (.iastore, 1) := by decide +kernel
theorem dX6_init_56 : decode cX6_init 56 = .ok (.aload_n 0, 1) := by decide +kernel
theorem dX6_init_57 : decode cX6_init 57 = .ok (.getfield 7, 3) := by decide +kernel
theorem dX6_init_60 : decode cX6_init 60 = .ok (.iconst 1, 1) := by decide +kernel
theorem dX6_init_61 : decode cX6_init 61 = .ok (.bipush 120, 2) := by decide +kernel
theorem dX6_init_63 : decode cX6_init 63 = .ok (.iastore, 1) := by decide +kernel
theorem dX6_init_64 : decode cX6_init 64 = .ok (.aload_n 0, 1) := by decide +kernel
theorem dX6_init_65 : decode cX6_init 65 = .ok (.getfield 7, 3) := by decide +kernel
theorem dX6_init_68 : decode cX6_init 68 = .ok (.iconst 2, 1) := by decide +kernel
theorem dX6_init_69 : decode cX6_init 69 = .ok (.iconst 4, 1) := by decide +kernel
theorem dX6_init_70 : decode cX6_init 70 = .ok (.iastore, 1) := by decide +kernel
theorem dX6_init_71 : decode cX6_init 71 = .ok (.aload_n 0, 1) := by decide +kernel
theorem dX6_init_72 : decode cX6_init 72 = .ok (.getfield 7, 3) := by decide +kernel
theorem dX6_init_75 : decode cX6_init 75 = .ok (.iconst 3, 1) := by decide +kernel
theorem dX6_init_76 : decode cX6_init 76 = .ok (.bipush 10, 2) := by decide +kernel
theorem dX6_init_78 : decode cX6_init 78 = .ok (.iastore, 1) := by decide +kernel
theorem dX6_init_79 : decode cX6_init 79 = .ok (.aload_n 0, 1) := by decide +kernel
theorem dX6_init_80 : decode cX6_init 80 = .ok (.getfield 7, 3) := by decide +kernel
theorem dX6_init_83 : decode cX6_init 83 = .ok (.iconst 4, 1) := by decide +kernel
theorem dX6_init_84 : decode cX6_init 84 = .ok (.bipush 30, 2) := by decide +kernel
theorem dX6_init_86 : decode cX6_init 86 = .ok (.iastore, 1) := by decide +kernel
theorem dX6_init_87 : decode cX6_init 87 = .ok (.aload_n 0, 1) := by decide +kernel
theorem dX6_init_88 : decode cX6_init 88 = .ok (.getfield 7, 3) := by decide +kernel
theorem dX6_init_91 : decode cX6_init 91 = .ok (.bipush 10, 2) := by decide +kernel
theorem dX6_init_93 : decode cX6_init 93 = .ok (.iconst (-1), 1) := by decide +kernel
theorem dX6_init_94 : decode cX6_init 94 = .ok (.iastore, 1) := by decide +kernel
theorem dX6_init_95 : decode cX6_init 95 = .ok (.return_, 1) := by decide +kernel
theorem dX6_thrown_0 : decode cX6_thrown 0 = .ok (.aload_n 0, 1) := by decide +kernel
theorem dX6_thrown_1 : decode cX6_thrown 1 = .ok (.getfield 25, 3) := by decide +kernel
theorem dX6_thrown_4 : decode cX6_thrown 4 = .ok (.ireturn, 1) := by decide +kernel
theorem dX6_within_0 : decode cX6_within 0 = .ok (.iload_n 0, 1) := by decide +kernel
theorem dX6_within_1 : decode cX6_within 1 = .ok (.iload_n 1, 1) := by decide +kernel
theorem dX6_within_2 : decode cX6_within 2 = .ok (.if_icmp .lt 12, 3) := by decide +kernel
theorem dX6_within_5 : decode cX6_within 5 = .ok (.iload_n 0, 1) := by decide +kernel
theorem dX6_within_6 : decode cX6_within 6 = .ok (.iload_n 2, 1) := by decide +kernel
theorem dX6_within_7 : decode cX6_within 7 = .ok (.if_icmp .gt 7, 3) := by decide +kernel
theorem dX6_within_10 : decode cX6_within 10 = .ok (.iconst 1, 1) := by decide +kernel
theorem dX6_within_11 : decode cX6_within 11 = .ok (.goto 4, 3) := by decide +kernel
theorem dX6_within_14 : decode cX6_within 14 = .ok (.iconst 0, 1) := by decide +kernel
theorem dX6_within_15 : decode cX6_within 15 = .ok (.ireturn, 1) := by decide +kernel
theorem dX6_save_0 : decode cX6_save 0 = .ok (.aload_n 0, 1) := by decide +kernel
theorem dX6_save_1 : decode cX6_save 1 = .ok (.getfield 29, 3) := by decide +kernel
theorem dX6_save_4 : decode cX6_save 4 = .ok (.bipush 6, 2) := by decide +kernel
theorem dX6_save_6 : decode cX6_save 6 = .ok (.if_icmp .ne 46, 3) := by decide +kernel
theorem dX6_save_9 : decode cX6_save 9 = .ok (.sipush 142, 3) := by decide +kernel
theorem dX6_save_12 : decode cX6_save 12 = .ok (.istore_n 1, 1) := by decide +kernel
theorem dX6_save_13 : decode cX6_save 13 = .ok (.iload_n 1, 1) := by decide +kernel
theorem dX6_save_14 : decode cX6_save 14 = .ok (.sipush 852, 3) := by decide +kernel
theorem dX6_save_17 : decode cX6_save 17 = .ok (.if_icmp .ge 25, 3) := by decide +kernel
theorem dX6_save_20 : decode cX6_save 20 = .ok (.aload_n 0, 1) := by decide +kernel
theorem dX6_save_21 : decode cX6_save 21 = .ok (.getfield 13, 3) := by decide +kernel
theorem dX6_save_24 : decode cX6_save 24 = .ok (.iload_n 1, 1) := by decide +kernel
theorem dX6_save_25 : decode cX6_save 25 = .ok (.sipush 142, 3) := by decide +kernel
theorem dX6_save_28 : decode cX6_save 28 = .ok (.isub, 1) := by decide +kernel
theorem dX6_save_29 : decode cX6_save 29 = .ok (.aload_n 0, 1) := by decide +kernel
theorem dX6_save_30 : decode cX6_save 30 = .ok (.getfield 13, 3) := by decide +kernel
theorem dX6_save_33 : decode cX6_save 33 = .ok (.iload_n 1, 1) := by decide +kernel
theorem dX6_save_34 : decode cX6_save 34 = .ok (.iaload, 1) := by decide +kernel
theorem dX6_save_35 : decode cX6_save 35 = .ok (.iastore, 1) := by decide +kernel
theorem dX6_save_36 : decode cX6_save 36 = .ok (.iinc 1 1, 3) := by decide +kernel
theorem dX6_save_39 : decode cX6_save 39 = .ok (.goto (-26), 3) := by decide +kernel
theorem dX6_save_42 : decode cX6_save 42 = .ok (.aload_n 0, 1) := by decide +kernel
theorem dX6_save_43 : decode cX6_save 43 = .ok (.dup, 1) := by decide +kernel
theorem dX6_save_44 : decode cX6_save 44 = .ok (.getfield 29, 3) := by decide +kernel
theorem dX6_save_47 : decode cX6_save 47 = .ok (.iconst 1, 1) := by decide +kernel
theorem dX6_save_48 : decode cX6_save 48 = .ok (.isub, 1) := by decide +kernel
theorem dX6_save_49 : decode cX6_save 49 = .ok (.putfield 29, 3) := by decide +kernel
theorem dX6_save_52 : decode cX6_save 52 = .ok (.iconst 0, 1) := by decide +kernel
theorem dX6_save_53 : decode cX6_save 53 = .ok (.istore_n 1, 1) := by decide +kernel
theorem dX6_save_54 : decode cX6_save 54 = .ok (.iload_n 1, 1) := by decide +kernel
theorem dX6_save_55 : decode cX6_save 55 = .ok (.sipush 142, 3) := by decide +kernel
theorem dX6_save_58 : decode cX6_save 58 = .ok (.if_icmp .ge 30, 3) := by decide +kernel
theorem dX6_save_61 : decode cX6_save 61 = .ok (.aload_n 0, 1) := by decide +kernel
theorem dX6_save_62 : decode cX6_save 62 = .ok (.getfield 13, 3) := by decide +kernel
theorem dX6_save_65 : decode cX6_save 65 = .ok (.sipush 142, 3) := by decide +kernel
theorem dX6_save_68 : decode cX6_save 68 = .ok (.aload_n 0, 1) := by decide +kernel
theorem dX6_save_69 : decode cX6_save 69 = .ok (.getfield 29, 3) := by decide +kernel
theorem dX6_save_72 : decode cX6_save 72 = .ok (.imul, 1) := by decide +kernel
theorem dX6_save_73 : decode cX6_save 73 = .ok (.iload_n 1, 1) := by decide +kernel
theorem dX6_save_74 : decode cX6_save 74 = .ok (.iadd, 1) := by decide +kernel
theorem dX6_save_75 : decode cX6_save 75 = .ok (.aload_n 0, 1) := by decide +kernel
theorem dX6_save_76 : decode cX6_save 76 = .ok (.getfield 7, 3) := by decide +kernel
theorem dX6_save_79 : decode cX6_save 79 = .ok (.iload_n 1, 1) := by decide +kernel
theorem dX6_save_80 : decode cX6_save 80 = .ok (.iaload, 1) := by decide +kernel
theorem dX6_save_81 : decode cX6_save 81 = .ok (.iastore, 1) := by decide +kernel
theorem dX6_save_82 : decode cX6_save 82 = .ok (.iinc 1 1, 3) := by decide +kernel
theorem dX6_save_85 : decode cX6_save 85 = .ok (.goto (-31), 3) := by decide +kernel
theorem dX6_save_88 : decode cX6_save 88 = .ok (.aload_n 0, 1) := by decide +kernel
theorem dX6_save_89 : decode cX6_save 89 = .ok (.dup, 1) := by decide +kernel
theorem dX6_save_90 : decode cX6_save 90 = .ok (.getfield 29, 3) := by decide +kernel
theorem dX6_save_93 : decode cX6_save 93 = .ok (.iconst 1, 1) := by decide +kernel
theorem dX6_save_94 : decode cX6_save 94 = .ok (.iadd, 1) := by decide +kernel
theorem dX6_save_95 : decode cX6_save 95 = .ok (.putfield 29, 3) := by decide +kernel
theorem dX6_save_98 : decode cX6_save 98 = .ok (.return_, 1) := by decide +kernel
theorem dX6_has_0 : decode cX6_has 0 = .ok (.iload_n 0, 1) := by decide +kernel
theorem dX6_has_1 : decode cX6_has 1 = .ok (.iload_n 1, 1) := by decide +kernel
theorem dX6_has_2 : decode cX6_has 2 = .ok (.ishr, 1) := by decide +kernel
theorem dX6_has_3 : decode cX6_has 3 = .ok (.iconst 1, 1) := by decide +kernel
theorem dX6_has_4 : decode cX6_has 4 = .ok (.iand, 1) := by decide +kernel
theorem dX6_has_5 : decode cX6_has 5 = .ok (.iconst 1, 1) := by decide +kernel
theorem dX6_has_6 : decode cX6_has 6 = .ok (.if_icmp .ne 7, 3) := by decide +kernel
theorem dX6_has_9 : decode cX6_has 9 = .ok (.iconst 1, 1) := by decide +kernel
theorem dX6_has_10 : decode cX6_has 10 = .ok (.goto 4, 3) := by decide +kernel
theorem dX6_has_13 : decode cX6_has 13 = .ok (.iconst 0, 1) := by decide +kernel
theorem dX6_has_14 : decode cX6_has 14 = .ok (.ireturn, 1) := by decide +kernel
theorem dX6_ones_0 : decode cX6_ones 0 = .ok (.iconst 0, 1) := by decide +kernel
theorem dX6_ones_1 : decode cX6_ones 1 = .ok (.istore_n 1, 1) := by decide +kernel
theorem dX6_ones_2 : decode cX6_ones 2 = .ok (.iconst 0, 1) := by decide +kernel
theorem dX6_ones_3 : decode cX6_ones 3 = .ok (.istore_n 2, 1) := by decide +kernel
theorem dX6_ones_4 : decode cX6_ones 4 = .ok (.iload_n 2, 1) := by decide +kernel
theorem dX6_ones_5 : decode cX6_ones 5 = .ok (.bipush 8, 2) := by decide +kernel
theorem dX6_ones_7 : decode cX6_ones 7 = .ok (.if_icmp .ge 17, 3) := by decide +kernel
theorem dX6_ones_10 : decode cX6_ones 10 = .ok (.iload_n 1, 1) := by decide +kernel
theorem dX6_ones_11 : decode cX6_ones 11 = .ok (.iload_n 0, 1) := by decide +kernel
theorem dX6_ones_12 : decode cX6_ones 12 = .ok (.iload_n 2, 1) := by decide +kernel
theorem dX6_ones_13 : decode cX6_ones 13 = .ok (.ishr, 1) := by decide +kernel
theorem dX6_ones_14 : decode cX6_ones 14 = .ok (.iconst 1, 1) := by decide +kernel
theorem dX6_ones_15 : decode cX6_ones 15 = .ok (.iand, 1) := by decide +kernel
theorem dX6_ones_16 : decode cX6_ones 16 = .ok (.iadd, 1) := by decide +kernel
theorem dX6_ones_17 : decode cX6_ones 17 = .ok (.istore_n 1, 1) := by decide +kernel
theorem dX6_ones_18 : decode cX6_ones 18 = .ok (.iinc 2 1, 3) := by decide +kernel
theorem dX6_ones_21 : decode cX6_ones 21 = .ok (.goto (-17), 3) := by decide +kernel
theorem dX6_ones_24 : decode cX6_ones 24 = .ok (.iload_n 1, 1) := by decide +kernel
theorem dX6_ones_25 : decode cX6_ones 25 = .ok (.ireturn, 1) := by decide +kernel
theorem dX6_of_0 : decode cX6_of 0 = .ok (.aload_n 0, 1) := by decide +kernel
theorem dX6_of_1 : decode cX6_of 1 = .ok (.getfield 7, 3) := by decide +kernel
theorem dX6_of_4 : decode cX6_of 4 = .ok (.bipush 14, 2) := by decide +kernel
theorem dX6_of_6 : decode cX6_of 6 = .ok (.bipush 16, 2) := by decide +kernel
theorem dX6_of_8 : decode cX6_of 8 = .ok (.iload_n 1, 1) := by decide +kernel
theorem dX6_of_9 : decode cX6_of 9 = .ok (.imul, 1) := by decide +kernel
theorem dX6_of_10 : decode cX6_of 10 = .ok (.iadd, 1) := by decide +kernel
theorem dX6_of_11 : decode cX6_of 11 = .ok (.iload_n 2, 1) := by decide +kernel
theorem dX6_of_12 : decode cX6_of 12 = .ok (.iadd, 1) := by decide +kernel
theorem dX6_of_13 : decode cX6_of 13 = .ok (.iaload, 1) := by decide +kernel
theorem dX6_of_14 : decode cX6_of 14 = .ok (.ireturn, 1) := by decide +kernel
theorem dX6_add_0 : decode cX6_add 0 = .ok (.aload_n 0, 1) := by decide +kernel
theorem dX6_add_1 : decode cX6_add 1 = .ok (.getfield 7, 3) := by decide +kernel
theorem dX6_add_4 : decode cX6_add 4 = .ok (.bipush 14, 2) := by decide +kernel
theorem dX6_add_6 : decode cX6_add 6 = .ok (.bipush 16, 2) := by decide +kernel
theorem dX6_add_8 : decode cX6_add 8 = .ok (.iload_n 1, 1) := by decide +kernel
theorem dX6_add_9 : decode cX6_add 9 = .ok (.imul, 1) := by decide +kernel
theorem dX6_add_10 : decode cX6_add 10 = .ok (.iadd, 1) := by decide +kernel
theorem dX6_add_11 : decode cX6_add 11 = .ok (.iload_n 2, 1) := by decide +kernel
theorem dX6_add_12 : decode cX6_add 12 = .ok (.iadd, 1) := by decide +kernel
theorem dX6_add_13 : decode cX6_add 13 = .ok (.dup2, 1) := by decide +kernel
theorem dX6_add_14 : decode cX6_add 14 = .ok (.iaload, 1) := by decide +kernel
theorem dX6_add_15 : decode cX6_add 15 = .ok (.iload_n 3, 1) := by decide +kernel
theorem dX6_add_16 : decode cX6_add 16 = .ok (.iadd, 1) := by decide +kernel
theorem dX6_add_17 : decode cX6_add 17 = .ok (.iastore, 1) := by decide +kernel
theorem dX6_add_18 : decode cX6_add 18 = .ok (.return_, 1) := by decide +kernel
theorem dX6_put_0 : decode cX6_put 0 = .ok (.aload_n 0, 1) := by decide +kernel
theorem dX6_put_1 : decode cX6_put 1 = .ok (.getfield 7, 3) := by decide +kernel
theorem dX6_put_4 : decode cX6_put 4 = .ok (.bipush 14, 2) := by decide +kernel
theorem dX6_put_6 : decode cX6_put 6 = .ok (.bipush 16, 2) := by decide +kernel
theorem dX6_put_8 : decode cX6_put 8 = .ok (.iload_n 1, 1) := by decide +kernel
theorem dX6_put_9 : decode cX6_put 9 = .ok (.imul, 1) := by decide +kernel
theorem dX6_put_10 : decode cX6_put 10 = .ok (.iadd, 1) := by decide +kernel
theorem dX6_put_11 : decode cX6_put 11 = .ok (.iload_n 2, 1) := by decide +kernel
theorem dX6_put_12 : decode cX6_put 12 = .ok (.iadd, 1) := by decide +kernel
theorem dX6_put_13 : decode cX6_put 13 = .ok (.iload_n 3, 1) := by decide +kernel
theorem dX6_put_14 : decode cX6_put 14 = .ok (.iastore, 1) := by decide +kernel
theorem dX6_put_15 : decode cX6_put 15 = .ok (.return_, 1) := by decide +kernel
theorem dX6_isMember_0 : decode cX6_isMember 0 = .ok (.iload_n 1, 1) := by decide +kernel
theorem dX6_isMember_1 : decode cX6_isMember 1 = .ok (.iconst 0, 1) := by decide +kernel
theorem dX6_isMember_2 : decode cX6_isMember 2 = .ok (.aload_n 0, 1) := by decide +kernel
theorem dX6_isMember_3 : decode cX6_isMember 3 = .ok (.getfield 7, 3) := by decide +kernel
theorem dX6_isMember_6 : decode cX6_isMember 6 = .ok (.iconst 5, 1) := by decide +kernel
theorem dX6_isMember_7 : decode cX6_isMember 7 = .ok (.iaload, 1) := by decide +kernel
theorem dX6_isMember_8 : decode cX6_isMember 8 = .ok (.iconst 1, 1) := by decide +kernel
theorem dX6_isMember_9 : decode cX6_isMember 9 = .ok (.isub, 1) := by decide +kernel
theorem dX6_isMember_10 : decode cX6_isMember 10 = .ok (.invokestatic 32, 3) := by decide +kernel
theorem dX6_isMember_13 : decode cX6_isMember 13 = .ok (.ireturn, 1) := by decide +kernel
theorem dX6_isThere_0 : decode cX6_isThere 0 = .ok (.aload_n 0, 1) := by decide +kernel
theorem dX6_isThere_1 : decode cX6_isThere 1 = .ok (.iload_n 1, 1) := by decide +kernel
theorem dX6_isThere_2 : decode cX6_isThere 2 = .ok (.iconst 0, 1) := by decide +kernel
theorem dX6_isThere_3 : decode cX6_isThere 3 = .ok (.invokevirtual 36, 3) := by decide +kernel
theorem dX6_isThere_6 : decode cX6_isThere 6 = .ok (.iconst 1, 1) := by decide +kernel
theorem dX6_isThere_7 : decode cX6_isThere 7 = .ok (.if_icmp .ne 7, 3) := by decide +kernel
theorem dX6_isThere_10 : decode cX6_isThere 10 = .ok (.iconst 1, 1) := by decide +kernel
theorem dX6_isThere_11 : decode cX6_isThere 11 = .ok (.goto 4, 3) := by decide +kernel
theorem dX6_isThere_14 : decode cX6_isThere 14 = .ok (.iconst 0, 1) := by decide +kernel
theorem dX6_isThere_15 : decode cX6_isThere 15 = .ok (.ireturn, 1) := by decide +kernel
theorem dX6_isSkill_0 : decode cX6_isSkill 0 = .ok (.iload_n 0, 1) := by decide +kernel
theorem dX6_isSkill_1 : decode cX6_isSkill 1 = .ok (.iconst 0, 1) := by decide +kernel
theorem dX6_isSkill_2 : decode cX6_isSkill 2 = .ok (.iconst 4, 1) := by decide +kernel
theorem dX6_isSkill_3 : decode cX6_isSkill 3 = .ok (.invokestatic 32, 3) := by decide +kernel
theorem dX6_isSkill_6 : decode cX6_isSkill 6 = .ok (.ireturn, 1) := by decide +kernel
theorem dX6_areMinutes_0 : decode cX6_areMinutes 0 = .ok (.iload_n 0, 1) := by decide +kernel
theorem dX6_areMinutes_1 : decode cX6_areMinutes 1 = .ok (.iconst 1, 1) := by decide +kernel
theorem dX6_areMinutes_2 : decode cX6_areMinutes 2 = .ok (.sipush 600, 3) := by decide +kernel
theorem dX6_areMinutes_5 : decode cX6_areMinutes 5 = .ok (.invokestatic 32, 3) := by decide +kernel
theorem dX6_areMinutes_8 : decode cX6_areMinutes 8 = .ok (.ireturn, 1) := by decide +kernel
theorem dX6_allThere_0 : decode cX6_allThere 0 = .ok (.iconst 0, 1) := by decide +kernel
theorem dX6_allThere_1 : decode cX6_allThere 1 = .ok (.istore_n 1, 1) := by decide +kernel
theorem dX6_allThere_2 : decode cX6_allThere 2 = .ok (.iconst 0, 1) := by decide +kernel
theorem dX6_allThere_3 : decode cX6_allThere 3 = .ok (.istore_n 2, 1) := by decide +kernel
theorem dX6_allThere_4 : decode cX6_allThere 4 = .ok (.iload_n 2, 1) := by decide +kernel
theorem dX6_allThere_5 : decode cX6_allThere 5 = .ok (.aload_n 0, 1) := by decide +kernel
theorem dX6_allThere_6 : decode cX6_allThere 6 = .ok (.getfield 7, 3) := by decide +kernel
theorem dX6_allThere_9 : decode cX6_allThere 9 = .ok (.iconst 5, 1) := by decide +kernel
theorem dX6_allThere_10 : decode cX6_allThere 10 = .ok (.iaload, 1) := by decide +kernel
theorem dX6_allThere_11 : decode cX6_allThere 11 = .ok (.if_icmp .ge 18, 3) := by decide +kernel
theorem dX6_allThere_14 : decode cX6_allThere 14 = .ok (.iload_n 1, 1) := by decide +kernel
theorem dX6_allThere_15 : decode cX6_allThere 15 = .ok (.aload_n 0, 1) := by decide +kernel
theorem dX6_allThere_16 : decode cX6_allThere 16 = .ok (.iload_n 2, 1) := by decide +kernel
theorem dX6_allThere_17 : decode cX6_allThere 17 = .ok (.iconst 0, 1) := by decide +kernel
theorem dX6_allThere_18 : decode cX6_allThere 18 = .ok (.invokevirtual 36, 3) := by decide +kernel
theorem dX6_allThere_21 : decode cX6_allThere 21 = .ok (.iadd, 1) := by decide +kernel
theorem dX6_allThere_22 : decode cX6_allThere 22 = .ok (.istore_n 1, 1) := by decide +kernel
theorem dX6_allThere_23 : decode cX6_allThere 23 = .ok (.iinc 2 1, 3) := by decide +kernel
theorem dX6_allThere_26 : decode cX6_allThere 26 = .ok (.goto (-22), 3) := by decide +kernel
theorem dX6_allThere_29 : decode cX6_allThere 29 = .ok (.iload_n 1, 1) := by decide +kernel
theorem dX6_allThere_30 : decode cX6_allThere 30 = .ok (.ireturn, 1) := by decide +kernel
theorem dX6_othersOf_0 : decode cX6_othersOf 0 = .ok (.aload_n 0, 1) := by decide +kernel
theorem dX6_othersOf_1 : decode cX6_othersOf 1 = .ok (.invokevirtual 40, 3) := by decide +kernel
theorem dX6_othersOf_4 : decode cX6_othersOf 4 = .ok (.aload_n 0, 1) := by decide +kernel
theorem dX6_othersOf_5 : decode cX6_othersOf 5 = .ok (.iload_n 1, 1) := by decide +kernel
theorem dX6_othersOf_6 : decode cX6_othersOf 6 = .ok (.iconst 0, 1) := by decide +kernel
theorem dX6_othersOf_7 : decode cX6_othersOf 7 = .ok (.invokevirtual 36, 3) := by decide +kernel
theorem dX6_othersOf_10 : decode cX6_othersOf 10 = .ok (.isub, 1) := by decide +kernel
theorem dX6_othersOf_11 : decode cX6_othersOf 11 = .ok (.ireturn, 1) := by decide +kernel
theorem dX6_endMotion_0 : decode cX6_endMotion 0 = .ok (.aload_n 0, 1) := by decide +kernel
theorem dX6_endMotion_1 : decode cX6_endMotion 1 = .ok (.getfield 7, 3) := by decide +kernel
theorem dX6_endMotion_4 : decode cX6_endMotion 4 = .ok (.bipush 10, 2) := by decide +kernel
theorem dX6_endMotion_6 : decode cX6_endMotion 6 = .ok (.iconst (-1), 1) := by decide +kernel
theorem dX6_endMotion_7 : decode cX6_endMotion 7 = .ok (.iastore, 1) := by decide +kernel
theorem dX6_endMotion_8 : decode cX6_endMotion 8 = .ok (.aload_n 0, 1) := by decide +kernel
theorem dX6_endMotion_9 : decode cX6_endMotion 9 = .ok (.getfield 7, 3) := by decide +kernel
theorem dX6_endMotion_12 : decode cX6_endMotion 12 = .ok (.bipush 11, 2) := by decide +kernel
theorem dX6_endMotion_14 : decode cX6_endMotion 14 = .ok (.iconst 0, 1) := by decide +kernel
theorem dX6_endMotion_15 : decode cX6_endMotion 15 = .ok (.iastore, 1) := by decide +kernel
theorem dX6_endMotion_16 : decode cX6_endMotion 16 = .ok (.aload_n 0, 1) := by decide +kernel
theorem dX6_endMotion_17 : decode cX6_endMotion 17 = .ok (.getfield 7, 3) := by decide +kernel
theorem dX6_endMotion_20 : decode cX6_endMotion 20 = .ok (.bipush 12, 2) := by decide +kernel
theorem dX6_endMotion_22 : decode cX6_endMotion 22 = .ok (.iconst 0, 1) := by decide +kernel
theorem dX6_endMotion_23 : decode cX6_endMotion 23 = .ok (.iastore, 1) := by decide +kernel
theorem dX6_endMotion_24 : decode cX6_endMotion 24 = .ok (.aload_n 0, 1) := by decide +kernel
theorem dX6_endMotion_25 : decode cX6_endMotion 25 = .ok (.getfield 7, 3) := by decide +kernel
theorem dX6_endMotion_28 : decode cX6_endMotion 28 = .ok (.bipush 13, 2) := by decide +kernel
theorem dX6_endMotion_30 : decode cX6_endMotion 30 = .ok (.iconst 0, 1) := by decide +kernel
theorem dX6_endMotion_31 : decode cX6_endMotion 31 = .ok (.iastore, 1) := by decide +kernel
theorem dX6_endMotion_32 : decode cX6_endMotion 32 = .ok (.return_, 1) := by decide +kernel
theorem dX6_lookAt_0 : decode cX6_lookAt 0 = .ok (.aload_n 0, 1) := by decide +kernel
theorem dX6_lookAt_1 : decode cX6_lookAt 1 = .ok (.getfield 7, 3) := by decide +kernel
theorem dX6_lookAt_4 : decode cX6_lookAt 4 = .ok (.bipush 10, 2) := by decide +kernel
theorem dX6_lookAt_6 : decode cX6_lookAt 6 = .ok (.iaload, 1) := by decide +kernel
theorem dX6_lookAt_7 : decode cX6_lookAt 7 = .ok (.istore_n 1, 1) := by decide +kernel
theorem dX6_lookAt_8 : decode cX6_lookAt 8 = .ok (.aload_n 0, 1) := by decide +kernel
theorem dX6_lookAt_9 : decode cX6_lookAt 9 = .ok (.iload_n 1, 1) := by decide +kernel
theorem dX6_lookAt_10 : decode cX6_lookAt 10 = .ok (.invokevirtual 44, 3) := by decide +kernel
theorem dX6_lookAt_13 : decode cX6_lookAt 13 = .ok (.istore_n 2, 1) := by decide +kernel
theorem dX6_lookAt_14 : decode cX6_lookAt 14 = .ok (.iload_n 2, 1) := by decide +kernel
theorem dX6_lookAt_15 : decode cX6_lookAt 15 = .ok (.ifCond .le 69, 3) := by decide +kernel
theorem dX6_lookAt_18 : decode cX6_lookAt 18 = .ok (.iconst 2, 1) := by decide +kernel
theorem dX6_lookAt_19 : decode cX6_lookAt 19 = .ok (.aload_n 0, 1) := by decide +kernel
theorem dX6_lookAt_20 : decode cX6_lookAt 20 = .ok (.getfield 7, 3) := by decide +kernel
theorem dX6_lookAt_23 : decode cX6_lookAt 23 = .ok (.bipush 12, 2) := by decide +kernel
theorem dX6_lookAt_25 : decode cX6_lookAt 25 = .ok (.iaload, 1) := by decide +kernel
theorem dX6_lookAt_26 : decode cX6_lookAt 26 = .ok (.invokestatic 48, 3) := by decide +kernel
theorem dX6_lookAt_29 : decode cX6_lookAt 29 = .ok (.imul, 1) := by decide +kernel
theorem dX6_lookAt_30 : decode cX6_lookAt 30 = .ok (.iload_n 2, 1) := by decide +kernel
theorem dX6_lookAt_31 : decode cX6_lookAt 31 = .ok (.if_icmp .le 53, 3) := by decide +kernel
theorem dX6_lookAt_34 : decode cX6_lookAt 34 = .ok (.aload_n 0, 1) := by decide +kernel
theorem dX6_lookAt_35 : decode cX6_lookAt 35 = .ok (.iload_n 1, 1) := by decide +kernel
theorem dX6_lookAt_36 : decode cX6_lookAt 36 = .ok (.iconst 1, 1) := by decide +kernel
theorem dX6_lookAt_37 : decode cX6_lookAt 37 = .ok (.aload_n 0, 1) := by decide +kernel
theorem dX6_lookAt_38 : decode cX6_lookAt 38 = .ok (.getfield 7, 3) := by decide +kernel
theorem dX6_lookAt_41 : decode cX6_lookAt 41 = .ok (.bipush 11, 2) := by decide +kernel
theorem dX6_lookAt_43 : decode cX6_lookAt 43 = .ok (.iaload, 1) := by decide +kernel
theorem dX6_lookAt_44 : decode cX6_lookAt 44 = .ok (.invokevirtual 51, 3) := by decide +kernel
theorem dX6_lookAt_47 : decode cX6_lookAt 47 = .ok (.aload_n 0, 1) := by decide +kernel
theorem dX6_lookAt_48 : decode cX6_lookAt 48 = .ok (.iload_n 1, 1) := by decide +kernel
theorem dX6_lookAt_49 : decode cX6_lookAt 49 = .ok (.bipush 10, 2) := by decide +kernel
theorem dX6_lookAt_51 : decode cX6_lookAt 51 = .ok (.aload_n 0, 1) := by decide +kernel
theorem dX6_lookAt_52 : decode cX6_lookAt 52 = .ok (.getfield 7, 3) := by decide +kernel
theorem dX6_lookAt_55 : decode cX6_lookAt 55 = .ok (.bipush 11, 2) := by decide +kernel
theorem dX6_lookAt_57 : decode cX6_lookAt 57 = .ok (.iaload, 1) := by decide +kernel
theorem dX6_lookAt_58 : decode cX6_lookAt 58 = .ok (.invokevirtual 51, 3) := by decide +kernel
theorem dX6_lookAt_61 : decode cX6_lookAt 61 = .ok (.aload_n 0, 1) := by decide +kernel
theorem dX6_lookAt_62 : decode cX6_lookAt 62 = .ok (.getfield 7, 3) := by decide +kernel
theorem dX6_lookAt_65 : decode cX6_lookAt 65 = .ok (.bipush 7, 2) := by decide +kernel
theorem dX6_lookAt_67 : decode cX6_lookAt 67 = .ok (.dup2, 1) := by decide +kernel
theorem dX6_lookAt_68 : decode cX6_lookAt 68 = .ok (.iaload, 1) := by decide +kernel
theorem dX6_lookAt_69 : decode cX6_lookAt 69 = .ok (.aload_n 0, 1) := by decide +kernel
theorem dX6_lookAt_70 : decode cX6_lookAt 70 = .ok (.getfield 7, 3) := by decide +kernel
theorem dX6_lookAt_73 : decode cX6_lookAt 73 = .ok (.bipush 11, 2) := by decide +kernel
theorem dX6_lookAt_75 : decode cX6_lookAt 75 = .ok (.iaload, 1) := by decide +kernel
theorem dX6_lookAt_76 : decode cX6_lookAt 76 = .ok (.iadd, 1) := by decide +kernel
theorem dX6_lookAt_77 : decode cX6_lookAt 77 = .ok (.iastore, 1) := by decide +kernel
theorem dX6_lookAt_78 : decode cX6_lookAt 78 = .ok (.aload_n 0, 1) := by decide +kernel
theorem dX6_lookAt_79 : decode cX6_lookAt 79 = .ok (.invokevirtual 55, 3) := by decide +kernel
theorem dX6_lookAt_82 : decode cX6_lookAt 82 = .ok (.iconst 1, 1) := by decide +kernel
theorem dX6_lookAt_83 : decode cX6_lookAt 83 = .ok (.ireturn, 1) := by decide +kernel
theorem dX6_lookAt_84 : decode cX6_lookAt 84 = .ok (.iload_n 2, 1) := by decide +kernel
theorem dX6_lookAt_85 : decode cX6_lookAt 85 = .ok (.ifCond .le 25, 3) := by decide +kernel
theorem dX6_lookAt_88 : decode cX6_lookAt 88 = .ok (.iconst 2, 1) := by decide +kernel
theorem dX6_lookAt_89 : decode cX6_lookAt 89 = .ok (.aload_n 0, 1) := by decide +kernel
theorem dX6_lookAt_90 : decode cX6_lookAt 90 = .ok (.getfield 7, 3) := by decide +kernel
theorem dX6_lookAt_93 : decode cX6_lookAt 93 = .ok (.bipush 13, 2) := by decide +kernel
theorem dX6_lookAt_95 : decode cX6_lookAt 95 = .ok (.iaload, 1) := by decide +kernel
theorem dX6_lookAt_96 : decode cX6_lookAt 96 = .ok (.invokestatic 48, 3) := by decide +kernel
theorem dX6_lookAt_99 : decode cX6_lookAt 99 = .ok (.imul, 1) := by decide +kernel
theorem dX6_lookAt_100 : decode cX6_lookAt 100 = .ok (.iload_n 2, 1) := by decide +kernel
theorem dX6_lookAt_101 : decode cX6_lookAt 101 = .ok (.if_icmp .lt 9, 3) := by decide +kernel
theorem dX6_lookAt_104 : decode cX6_lookAt 104 = .ok (.aload_n 0, 1) := by decide +kernel
theorem dX6_lookAt_105 : decode cX6_lookAt 105 = .ok (.invokevirtual 55, 3) := by decide +kernel
theorem dX6_lookAt_108 : decode cX6_lookAt 108 = .ok (.iconst 2, 1) := by decide +kernel
theorem dX6_lookAt_109 : decode cX6_lookAt 109 = .ok (.ireturn, 1) := by decide +kernel
theorem dX6_lookAt_110 : decode cX6_lookAt 110 = .ok (.iconst 0, 1) := by decide +kernel
theorem dX6_lookAt_111 : decode cX6_lookAt 111 = .ok (.ireturn, 1) := by decide +kernel
theorem dX6_join_0 : decode cX6_join 0 = .ok (.aload_n 0, 1) := by decide +kernel
theorem dX6_join_1 : decode cX6_join 1 = .ok (.aload_n 0, 1) := by decide +kernel
theorem dX6_join_2 : decode cX6_join 2 = .ok (.getfield 7, 3) := by decide +kernel
theorem dX6_join_5 : decode cX6_join 5 = .ok (.iconst 5, 1) := by decide +kernel
theorem dX6_join_6 : decode cX6_join 6 = .ok (.iaload, 1) := by decide +kernel
theorem dX6_join_7 : decode cX6_join 7 = .ok (.bipush 8, 2) := by decide +kernel
theorem dX6_join_9 : decode cX6_join 9 = .ok (.if_icmp .ne 7, 3) := by decide +kernel
theorem dX6_join_12 : decode cX6_join 12 = .ok (.iconst 1, 1) := by decide +kernel
theorem dX6_join_13 : decode cX6_join 13 = .ok (.goto 4, 3) := by decide +kernel
theorem dX6_join_16 : decode cX6_join 16 = .ok (.iconst 0, 1) := by decide +kernel
theorem dX6_join_17 : decode cX6_join 17 = .ok (.putfield 25, 3) := by decide +kernel
theorem dX6_join_20 : decode cX6_join 20 = .ok (.aload_n 0, 1) := by decide +kernel
theorem dX6_join_21 : decode cX6_join 21 = .ok (.getfield 25, 3) := by decide +kernel
theorem dX6_join_24 : decode cX6_join 24 = .ok (.ifCond .le 5, 3) := by decide +kernel
theorem dX6_join_27 : decode cX6_join 27 = .ok (.iconst 0, 1) := by decide +kernel
theorem dX6_join_28 : decode cX6_join 28 = .ok (.ireturn, 1) := by decide +kernel
theorem dX6_join_29 : decode cX6_join 29 = .ok (.aload_n 0, 1) := by decide +kernel
theorem dX6_join_30 : decode cX6_join 30 = .ok (.invokevirtual 58, 3) := by decide +kernel
theorem dX6_join_33 : decode cX6_join 33 = .ok (.aload_n 0, 1) := by decide +kernel
theorem dX6_join_34 : decode cX6_join 34 = .ok (.getfield 7, 3) := by decide +kernel
theorem dX6_join_37 : decode cX6_join 37 = .ok (.iconst 5, 1) := by decide +kernel
theorem dX6_join_38 : decode cX6_join 38 = .ok (.iaload, 1) := by decide +kernel
theorem dX6_join_39 : decode cX6_join 39 = .ok (.istore_n 1, 1) := by decide +kernel
theorem dX6_join_40 : decode cX6_join 40 = .ok (.aload_n 0, 1) := by decide +kernel
theorem dX6_join_41 : decode cX6_join 41 = .ok (.getfield 7, 3) := by decide +kernel
theorem dX6_join_44 : decode cX6_join 44 = .ok (.iconst 5, 1) := by decide +kernel
theorem dX6_join_45 : decode cX6_join 45 = .ok (.dup2, 1) := by decide +kernel
theorem dX6_join_46 : decode cX6_join 46 = .ok (.iaload, 1) := by decide +kernel
theorem dX6_join_47 : decode cX6_join 47 = .ok (.iconst 1, 1) := by decide +kernel
theorem dX6_join_48 : decode cX6_join 48 = .ok (.iadd, 1) := by decide +kernel
theorem dX6_join_49 : decode cX6_join 49 = .ok (.iastore, 1) := by decide +kernel
theorem dX6_join_50 : decode cX6_join 50 = .ok (.aload_n 0, 1) := by decide +kernel
theorem dX6_join_51 : decode cX6_join 51 = .ok (.iload_n 1, 1) := by decide +kernel
theorem dX6_join_52 : decode cX6_join 52 = .ok (.iconst 0, 1) := by decide +kernel
theorem dX6_join_53 : decode cX6_join 53 = .ok (.iconst 1, 1) := by decide +kernel
theorem dX6_join_54 : decode cX6_join 54 = .ok (.invokevirtual 61, 3) := by decide +kernel
theorem dX6_join_57 : decode cX6_join 57 = .ok (.aload_n 0, 1) := by decide +kernel
theorem dX6_join_58 : decode cX6_join 58 = .ok (.iload_n 1, 1) := by decide +kernel
theorem dX6_join_59 : decode cX6_join 59 = .ok (.iconst 1, 1) := by decide +kernel
theorem dX6_join_60 : decode cX6_join 60 = .ok (.aload_n 0, 1) := by decide +kernel
theorem dX6_join_61 : decode cX6_join 61 = .ok (.getfield 7, 3) := by decide +kernel
theorem dX6_join_64 : decode cX6_join 64 = .ok (.iconst 1, 1) := by decide +kernel
theorem dX6_join_65 : decode cX6_join 65 = .ok (.iaload, 1) := by decide +kernel
theorem dX6_join_66 : decode cX6_join 66 = .ok (.invokevirtual 61, 3) := by decide +kernel
theorem dX6_join_69 : decode cX6_join 69 = .ok (.aload_n 0, 1) := by decide +kernel
theorem dX6_join_70 : decode cX6_join 70 = .ok (.iload_n 1, 1) := by decide +kernel
theorem dX6_join_71 : decode cX6_join 71 = .ok (.iconst 2, 1) := by decide +kernel
theorem dX6_join_72 : decode cX6_join 72 = .ok (.aload_n 0, 1) := by decide +kernel
theorem dX6_join_73 : decode cX6_join 73 = .ok (.getfield 7, 3) := by decide +kernel
theorem dX6_join_76 : decode cX6_join 76 = .ok (.iconst 1, 1) := by decide +kernel
theorem dX6_join_77 : decode cX6_join 77 = .ok (.iaload, 1) := by decide +kernel
theorem dX6_join_78 : decode cX6_join 78 = .ok (.invokevirtual 61, 3) := by decide +kernel
theorem dX6_join_81 : decode cX6_join 81 = .ok (.aload_n 0, 1) := by decide +kernel
theorem dX6_join_82 : decode cX6_join 82 = .ok (.getfield 7, 3) := by decide +kernel
theorem dX6_join_85 : decode cX6_join 85 = .ok (.bipush 6, 2) := by decide +kernel
theorem dX6_join_87 : decode cX6_join 87 = .ok (.dup2, 1) := by decide +kernel
theorem dX6_join_88 : decode cX6_join 88 = .ok (.iaload, 1) := by decide +kernel
theorem dX6_join_89 : decode cX6_join 89 = .ok (.aload_n 0, 1) := by decide +kernel
theorem dX6_join_90 : decode cX6_join 90 = .ok (.getfield 7, 3) := by decide +kernel
theorem dX6_join_93 : decode cX6_join 93 = .ok (.iconst 1, 1) := by decide +kernel
theorem dX6_join_94 : decode cX6_join 94 = .ok (.iaload, 1) := by decide +kernel
theorem dX6_join_95 : decode cX6_join 95 = .ok (.isub, 1) := by decide +kernel
theorem dX6_join_96 : decode cX6_join 96 = .ok (.iastore, 1) := by decide +kernel
theorem dX6_join_97 : decode cX6_join 97 = .ok (.iload_n 1, 1) := by decide +kernel
theorem dX6_join_98 : decode cX6_join 98 = .ok (.ireturn, 1) := by decide +kernel
theorem dX6_leave_0 : decode cX6_leave 0 = .ok (.aload_n 0, 1) := by decide +kernel
theorem dX6_leave_1 : decode cX6_leave 1 = .ok (.aload_n 0, 1) := by decide +kernel
theorem dX6_leave_2 : decode cX6_leave 2 = .ok (.iload_n 1, 1) := by decide +kernel
theorem dX6_leave_3 : decode cX6_leave 3 = .ok (.invokevirtual 64, 3) := by decide +kernel
theorem dX6_leave_6 : decode cX6_leave 6 = .ok (.ifCond .ne 7, 3) := by decide +kernel
theorem dX6_leave_9 : decode cX6_leave 9 = .ok (.iconst 1, 1) := by decide +kernel
theorem dX6_leave_10 : decode cX6_leave 10 = .ok (.goto 25, 3) := by decide +kernel
theorem dX6_leave_13 : decode cX6_leave 13 = .ok (.aload_n 0, 1) := by decide +kernel
theorem dX6_leave_14 : decode cX6_leave 14 = .ok (.iload_n 1, 1) := by decide +kernel
theorem dX6_leave_15 : decode cX6_leave 15 = .ok (.invokevirtual 68, 3) := by decide +kernel
theorem dX6_leave_18 : decode cX6_leave 18 = .ok (.ifCond .eq 16, 3) := by decide +kernel
theorem dX6_leave_21 : decode cX6_leave 21 = .ok (.aload_n 0, 1) := by decide +kernel
theorem dX6_leave_22 : decode cX6_leave 22 = .ok (.iload_n 1, 1) := by decide +kernel
theorem dX6_leave_23 : decode cX6_leave 23 = .ok (.iconst 1, 1) := by decide +kernel
theorem dX6_leave_24 : decode cX6_leave 24 = .ok (.invokevirtual 36, 3) := by decide +kernel
theorem dX6_leave_27 : decode cX6_leave 27 = .ok (.ifCond .lt 7, 3) := by decide +kernel
theorem dX6_leave_30 : decode cX6_leave 30 = .ok (.iconst 0, 1) := by decide +kernel
theorem dX6_leave_31 : decode cX6_leave 31 = .ok (.goto 4, 3) := by decide +kernel
theorem dX6_leave_34 : decode cX6_leave 34 = .ok (.iconst 2, 1) := by decide +kernel
theorem dX6_leave_35 : decode cX6_leave 35 = .ok (.putfield 25, 3) := by decide +kernel
theorem dX6_leave_38 : decode cX6_leave 38 = .ok (.aload_n 0, 1) := by decide +kernel
theorem dX6_leave_39 : decode cX6_leave 39 = .ok (.getfield 25, 3) := by decide +kernel
theorem dX6_leave_42 : decode cX6_leave 42 = .ok (.ifCond .le 5, 3) := by decide +kernel
theorem dX6_leave_45 : decode cX6_leave 45 = .ok (.iconst 0, 1) := by decide +kernel
theorem dX6_leave_46 : decode cX6_leave 46 = .ok (.ireturn, 1) := by decide +kernel
theorem dX6_leave_47 : decode cX6_leave 47 = .ok (.aload_n 0, 1) := by decide +kernel
theorem dX6_leave_48 : decode cX6_leave 48 = .ok (.invokevirtual 58, 3) := by decide +kernel
theorem dX6_leave_51 : decode cX6_leave 51 = .ok (.aload_n 0, 1) := by decide +kernel
theorem dX6_leave_52 : decode cX6_leave 52 = .ok (.iload_n 1, 1) := by decide +kernel
theorem dX6_leave_53 : decode cX6_leave 53 = .ok (.iconst 1, 1) := by decide +kernel
theorem dX6_leave_54 : decode cX6_leave 54 = .ok (.invokevirtual 36, 3) := by decide +kernel
theorem dX6_leave_57 : decode cX6_leave 57 = .ok (.istore_n 2, 1) := by decide +kernel
theorem dX6_leave_58 : decode cX6_leave 58 = .ok (.aload_n 0, 1) := by decide +kernel
theorem dX6_leave_59 : decode cX6_leave 59 = .ok (.getfield 7, 3) := by decide +kernel
theorem dX6_leave_62 : decode cX6_leave 62 = .ok (.bipush 6, 2) := by decide +kernel
theorem dX6_leave_64 : decode cX6_leave 64 = .ok (.dup2, 1) := by decide +kernel
theorem dX6_leave_65 : decode cX6_leave 65 = .ok (.iaload, 1) := by decide +kernel
theorem dX6_leave_66 : decode cX6_leave 66 = .ok (.iload_n 2, 1) := by decide +kernel
theorem dX6_leave_67 : decode cX6_leave 67 = .ok (.iadd, 1) := by decide +kernel
theorem dX6_leave_68 : decode cX6_leave 68 = .ok (.iastore, 1) := by decide +kernel
theorem dX6_leave_69 : decode cX6_leave 69 = .ok (.aload_n 0, 1) := by decide +kernel
theorem dX6_leave_70 : decode cX6_leave 70 = .ok (.iload_n 1, 1) := by decide +kernel
theorem dX6_leave_71 : decode cX6_leave 71 = .ok (.iconst 0, 1) := by decide +kernel
theorem dX6_leave_72 : decode cX6_leave 72 = .ok (.iconst 0, 1) := by decide +kernel
theorem dX6_leave_73 : decode cX6_leave 73 = .ok (.invokevirtual 61, 3) := by decide +kernel
theorem dX6_leave_76 : decode cX6_leave 76 = .ok (.aload_n 0, 1) := by decide +kernel
theorem dX6_leave_77 : decode cX6_leave 77 = .ok (.iload_n 1, 1) := by decide +kernel
theorem dX6_leave_78 : decode cX6_leave 78 = .ok (.iconst 1, 1) := by decide +kernel
theorem dX6_leave_79 : decode cX6_leave 79 = .ok (.iconst 0, 1) := by decide +kernel
theorem dX6_leave_80 : decode cX6_leave 80 = .ok (.invokevirtual 61, 3) := by decide +kernel
theorem dX6_leave_83 : decode cX6_leave 83 = .ok (.aload_n 0, 1) := by decide +kernel
theorem dX6_leave_84 : decode cX6_leave 84 = .ok (.iload_n 1, 1) := by decide +kernel
theorem dX6_leave_85 : decode cX6_leave 85 = .ok (.iconst 2, 1) := by decide +kernel
theorem dX6_leave_86 : decode cX6_leave 86 = .ok (.iconst 0, 1) := by decide +kernel
theorem dX6_leave_87 : decode cX6_leave 87 = .ok (.invokevirtual 61, 3) := by decide +kernel
theorem dX6_leave_90 : decode cX6_leave 90 = .ok (.aload_n 0, 1) := by decide +kernel
theorem dX6_leave_91 : decode cX6_leave 91 = .ok (.getfield 7, 3) := by decide +kernel
theorem dX6_leave_94 : decode cX6_leave 94 = .ok (.bipush 12, 2) := by decide +kernel
theorem dX6_leave_96 : decode cX6_leave 96 = .ok (.dup2, 1) := by decide +kernel
theorem dX6_leave_97 : decode cX6_leave 97 = .ok (.iaload, 1) := by decide +kernel
theorem dX6_leave_98 : decode cX6_leave 98 = .ok (.iconst 1, 1) := by decide +kernel
theorem dX6_leave_99 : decode cX6_leave 99 = .ok (.iload_n 1, 1) := by decide +kernel
theorem dX6_leave_100 : decode cX6_leave 100 = .ok (.ishl, 1) := by decide +kernel
theorem dX6_leave_101 : decode cX6_leave 101 = .ok (.iconst (-1), 1) := by decide +kernel
theorem dX6_leave_102 : decode cX6_leave 102 = .ok (.ixor, 1) := by decide +kernel
theorem dX6_leave_103 : decode cX6_leave 103 = .ok (.iand, 1) := by decide +kernel
theorem dX6_leave_104 : decode cX6_leave 104 = .ok (.iastore, 1) := by decide +kernel
theorem dX6_leave_105 : decode cX6_leave 105 = .ok (.aload_n 0, 1) := by decide +kernel
theorem dX6_leave_106 : decode cX6_leave 106 = .ok (.getfield 7, 3) := by decide +kernel
theorem dX6_leave_109 : decode cX6_leave 109 = .ok (.bipush 13, 2) := by decide +kernel
theorem dX6_leave_111 : decode cX6_leave 111 = .ok (.dup2, 1) := by decide +kernel
theorem dX6_leave_112 : decode cX6_leave 112 = .ok (.iaload, 1) := by decide +kernel
theorem dX6_leave_113 : decode cX6_leave 113 = .ok (.iconst 1, 1) := by decide +kernel
theorem dX6_leave_114 : decode cX6_leave 114 = .ok (.iload_n 1, 1) := by decide +kernel
theorem dX6_leave_115 : decode cX6_leave 115 = .ok (.ishl, 1) := by decide +kernel
theorem dX6_leave_116 : decode cX6_leave 116 = .ok (.iconst (-1), 1) := by decide +kernel
theorem dX6_leave_117 : decode cX6_leave 117 = .ok (.ixor, 1) := by decide +kernel
theorem dX6_leave_118 : decode cX6_leave 118 = .ok (.iand, 1) := by decide +kernel
theorem dX6_leave_119 : decode cX6_leave 119 = .ok (.iastore, 1) := by decide +kernel
theorem dX6_leave_120 : decode cX6_leave 120 = .ok (.aload_n 0, 1) := by decide +kernel
theorem dX6_leave_121 : decode cX6_leave 121 = .ok (.getfield 7, 3) := by decide +kernel
theorem dX6_leave_124 : decode cX6_leave 124 = .ok (.bipush 10, 2) := by decide +kernel
theorem dX6_leave_126 : decode cX6_leave 126 = .ok (.iaload, 1) := by decide +kernel
theorem dX6_leave_127 : decode cX6_leave 127 = .ok (.iload_n 1, 1) := by decide +kernel
theorem dX6_leave_128 : decode cX6_leave 128 = .ok (.if_icmp .ne 7, 3) := by decide +kernel
theorem dX6_leave_131 : decode cX6_leave 131 = .ok (.aload_n 0, 1) := by decide +kernel
theorem dX6_leave_132 : decode cX6_leave 132 = .ok (.invokevirtual 55, 3) := by decide +kernel
theorem dX6_leave_135 : decode cX6_leave 135 = .ok (.aload_n 0, 1) := by decide +kernel
theorem dX6_leave_136 : decode cX6_leave 136 = .ok (.getfield 7, 3) := by decide +kernel
theorem dX6_leave_139 : decode cX6_leave 139 = .ok (.bipush 10, 2) := by decide +kernel
theorem dX6_leave_141 : decode cX6_leave 141 = .ok (.iaload, 1) := by decide +kernel
theorem dX6_leave_142 : decode cX6_leave 142 = .ok (.iconst (-1), 1) := by decide +kernel
theorem dX6_leave_143 : decode cX6_leave 143 = .ok (.if_icmp .ne 7, 3) := by decide +kernel
theorem dX6_leave_146 : decode cX6_leave 146 = .ok (.iconst 0, 1) := by decide +kernel
theorem dX6_leave_147 : decode cX6_leave 147 = .ok (.goto 7, 3) := by decide +kernel
theorem dX6_leave_150 : decode cX6_leave 150 = .ok (.aload_n 0, 1) := by decide +kernel
theorem dX6_leave_151 : decode cX6_leave 151 = .ok (.invokevirtual 71, 3) := by decide +kernel
theorem dX6_leave_154 : decode cX6_leave 154 = .ok (.istore_n 3, 1) := by decide +kernel
theorem dX6_leave_155 : decode cX6_leave 155 = .ok (.iload_n 2, 1) := by decide +kernel
theorem dX6_leave_156 : decode cX6_leave 156 = .ok (.ireturn, 1) := by decide +kernel
theorem dX6_ripenessOf_0 : decode cX6_ripenessOf 0 = .ok (.aload_n 0, 1) := by decide +kernel
theorem dX6_ripenessOf_1 : decode cX6_ripenessOf 1 = .ok (.iload_n 1, 1) := by decide +kernel
theorem dX6_ripenessOf_2 : decode cX6_ripenessOf 2 = .ok (.bipush 11, 2) := by decide +kernel
theorem dX6_ripenessOf_4 : decode cX6_ripenessOf 4 = .ok (.iload_n 2, 1) := by decide +kernel
theorem dX6_ripenessOf_5 : decode cX6_ripenessOf 5 = .ok (.iadd, 1) := by decide +kernel
theorem dX6_ripenessOf_6 : decode cX6_ripenessOf 6 = .ok (.invokevirtual 36, 3) := by decide +kernel
theorem dX6_ripenessOf_9 : decode cX6_ripenessOf 9 = .ok (.sipush 300, 3) := by decide +kernel
theorem dX6_ripenessOf_12 : decode cX6_ripenessOf 12 = .ok (.idiv, 1) := by decide +kernel
theorem dX6_ripenessOf_13 : decode cX6_ripenessOf 13 = .ok (.istore_n 3, 1) := by decide +kernel
theorem dX6_ripenessOf_14 : decode cX6_ripenessOf 14 = .ok (.iload_n 3, 1) := by decide +kernel
theorem dX6_ripenessOf_15 : decode cX6_ripenessOf 15 = .ok (.bipush 9, 2) := by decide +kernel
theorem dX6_ripenessOf_17 : decode cX6_ripenessOf 17 = .ok (.if_icmp .le 8, 3) := by decide +kernel
theorem dX6_ripenessOf_20 : decode cX6_ripenessOf 20 = .ok (.bipush 9, 2) := by decide +kernel
theorem dX6_ripenessOf_22 : decode cX6_ripenessOf 22 = .ok (.goto 4, 3) := by decide +kernel
theorem dX6_ripenessOf_25 : decode cX6_ripenessOf 25 = .ok (.iload_n 3, 1) := by decide +kernel
theorem dX6_ripenessOf_26 : decode cX6_ripenessOf 26 = .ok (.ireturn, 1) := by decide +kernel
theorem dX6_valueOf_0 : decode cX6_valueOf 0 = .ok (.iload_n 3, 1) := by decide +kernel
theorem dX6_valueOf_1 : decode cX6_valueOf 1 = .ok (.bipush 10, 2) := by decide +kernel
theorem dX6_valueOf_3 : decode cX6_valueOf 3 = .ok (.aload_n 0, 1) := by decide +kernel
theorem dX6_valueOf_4 : decode cX6_valueOf 4 = .ok (.iload_n 1, 1) := by decide +kernel
theorem dX6_valueOf_5 : decode cX6_valueOf 5 = .ok (.iload_n 2, 1) := by decide +kernel
theorem dX6_valueOf_6 : decode cX6_valueOf 6 = .ok (.invokevirtual 74, 3) := by decide +kernel
theorem dX6_valueOf_9 : decode cX6_valueOf 9 = .ok (.iadd, 1) := by decide +kernel
theorem dX6_valueOf_10 : decode cX6_valueOf 10 = .ok (.imul, 1) := by decide +kernel
theorem dX6_valueOf_11 : decode cX6_valueOf 11 = .ok (.bipush 10, 2) := by decide +kernel
theorem dX6_valueOf_13 : decode cX6_valueOf 13 = .ok (.idiv, 1) := by decide +kernel
theorem dX6_valueOf_14 : decode cX6_valueOf 14 = .ok (.ireturn, 1) := by decide +kernel
theorem dX6_canPay_0 : decode cX6_canPay 0 = .ok (.aload_n 0, 1) := by decide +kernel
theorem dX6_canPay_1 : decode cX6_canPay 1 = .ok (.iload_n 1, 1) := by decide +kernel
theorem dX6_canPay_2 : decode cX6_canPay 2 = .ok (.iconst 1, 1) := by decide +kernel
theorem dX6_canPay_3 : decode cX6_canPay 3 = .ok (.invokevirtual 36, 3) := by decide +kernel
theorem dX6_canPay_6 : decode cX6_canPay 6 = .ok (.iload_n 2, 1) := by decide +kernel
theorem dX6_canPay_7 : decode cX6_canPay 7 = .ok (.isub, 1) := by decide +kernel
theorem dX6_canPay_8 : decode cX6_canPay 8 = .ok (.aload_n 0, 1) := by decide +kernel
theorem dX6_canPay_9 : decode cX6_canPay 9 = .ok (.getfield 7, 3) := by decide +kernel
theorem dX6_canPay_12 : decode cX6_canPay 12 = .ok (.iconst 0, 1) := by decide +kernel
theorem dX6_canPay_13 : decode cX6_canPay 13 = .ok (.iaload, 1) := by decide +kernel
theorem dX6_canPay_14 : decode cX6_canPay 14 = .ok (.ineg, 1) := by decide +kernel
theorem dX6_canPay_15 : decode cX6_canPay 15 = .ok (.if_icmp .lt 7, 3) := by decide +kernel
theorem dX6_canPay_18 : decode cX6_canPay 18 = .ok (.iconst 1, 1) := by decide +kernel
theorem dX6_canPay_19 : decode cX6_canPay 19 = .ok (.goto 4, 3) := by decide +kernel
theorem dX6_canPay_22 : decode cX6_canPay 22 = .ok (.iconst 0, 1) := by decide +kernel
theorem dX6_canPay_23 : decode cX6_canPay 23 = .ok (.ireturn, 1) := by decide +kernel
theorem dX6_canDeal_0 : decode cX6_canDeal 0 = .ok (.iload_n 1, 1) := by decide +kernel
theorem dX6_canDeal_1 : decode cX6_canDeal 1 = .ok (.iload_n 2, 1) := by decide +kernel
theorem dX6_canDeal_2 : decode cX6_canDeal 2 = .ok (.if_icmp .eq 39, 3) := by decide +kernel
theorem dX6_canDeal_5 : decode cX6_canDeal 5 = .ok (.aload_n 0, 1) := by decide +kernel
theorem dX6_canDeal_6 : decode cX6_canDeal 6 = .ok (.iload_n 1, 1) := by decide +kernel
theorem dX6_canDeal_7 : decode cX6_canDeal 7 = .ok (.invokevirtual 68, 3) := by decide +kernel
theorem dX6_canDeal_10 : decode cX6_canDeal 10 = .ok (.ifCond .eq 31, 3) := by decide +kernel
theorem dX6_canDeal_13 : decode cX6_canDeal 13 = .ok (.aload_n 0, 1) := by decide +kernel
theorem dX6_canDeal_14 : decode cX6_canDeal 14 = .ok (.iload_n 2, 1) := by decide +kernel
theorem dX6_canDeal_15 : decode cX6_canDeal 15 = .ok (.invokevirtual 68, 3) := by decide +kernel
theorem dX6_canDeal_18 : decode cX6_canDeal 18 = .ok (.ifCond .eq 23, 3) := by decide +kernel
theorem dX6_canDeal_21 : decode cX6_canDeal 21 = .ok (.aload_n 0, 1) := by decide +kernel
theorem dX6_canDeal_22 : decode cX6_canDeal 22 = .ok (.iload_n 2, 1) := by decide +kernel
theorem dX6_canDeal_23 : decode cX6_canDeal 23 = .ok (.aload_n 0, 1) := by decide +kernel
theorem dX6_canDeal_24 : decode cX6_canDeal 24 = .ok (.iload_n 1, 1) := by decide +kernel
theorem dX6_canDeal_25 : decode cX6_canDeal 25 = .ok (.iload_n 3, 1) := by decide +kernel
theorem dX6_canDeal_26 : decode cX6_canDeal 26 = .ok (.iload 4, 2) := by decide +kernel
theorem dX6_canDeal_28 : decode cX6_canDeal 28 = .ok (.invokevirtual 77, 3) := by decide +kernel
theorem dX6_canDeal_31 : decode cX6_canDeal 31 = .ok (.invokevirtual 81, 3) := by decide +kernel
theorem dX6_canDeal_34 : decode cX6_canDeal 34 = .ok (.ifCond .eq 7, 3) := by decide +kernel
theorem dX6_canDeal_37 : decode cX6_canDeal 37 = .ok (.iconst 1, 1) := by decide +kernel
theorem dX6_canDeal_38 : decode cX6_canDeal 38 = .ok (.goto 4, 3) := by decide +kernel
theorem dX6_canDeal_41 : decode cX6_canDeal 41 = .ok (.iconst 0, 1) := by decide +kernel
theorem dX6_canDeal_42 : decode cX6_canDeal 42 = .ok (.ireturn, 1) := by decide +kernel
theorem dX6_deals_0 : decode cX6_deals 0 = .ok (.aload_n 0, 1) := by decide +kernel
theorem dX6_deals_1 : decode cX6_deals 1 = .ok (.iload_n 1, 1) := by decide +kernel
theorem dX6_deals_2 : decode cX6_deals 2 = .ok (.iload_n 3, 1) := by decide +kernel
theorem dX6_deals_3 : decode cX6_deals 3 = .ok (.iload 4, 2) := by decide +kernel
theorem dX6_deals_5 : decode cX6_deals 5 = .ok (.invokevirtual 77, 3) := by decide +kernel
theorem dX6_deals_8 : decode cX6_deals 8 = .ok (.istore 5, 2) := by decide +kernel
theorem dX6_deals_10 : decode cX6_deals 10 = .ok (.aload_n 0, 1) := by decide +kernel
theorem dX6_deals_11 : decode cX6_deals 11 = .ok (.iload_n 1, 1) := by decide +kernel
theorem dX6_deals_12 : decode cX6_deals 12 = .ok (.iconst 2, 1) := by decide +kernel
theorem dX6_deals_13 : decode cX6_deals 13 = .ok (.invokevirtual 36, 3) := by decide +kernel
theorem dX6_deals_16 : decode cX6_deals 16 = .ok (.istore 6, 2) := by decide +kernel
theorem dX6_deals_18 : decode cX6_deals 18 = .ok (.iload 5, 2) := by decide +kernel
