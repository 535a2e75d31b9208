theorem dX0_init_0 : decode cX0_init 0 = .ok (.aload_n 0, 1) := by decide +kernel
theorem dX0_init_1 : decode cX0_init 1 = .ok (.invokespecial 3, 3) := by decide +kernel
theorem dX0_init_4 : decode cX0_init 4 = .ok (.aload_n 0, 1) := by decide +kernel
theorem dX0_init_5 : decode cX0_init 5 = .ok (.bipush 8, 2) := by decide +kernel
theorem dX0_init_7 : decode cX0_init 7 = .ok (.anewarray 9, 3) := by decide +kernel
theorem dX0_init_10 : decode cX0_init 10 = .ok (.putfield 11, 3) := by decide +kernel
theorem dX0_init_13 : decode cX0_init 13 = .ok (.iconst 0, 1) := by decide +kernel
theorem dX0_init_14 : decode cX0_init 14 = .ok (.istore_n 1, 1) := by decide +kernel
theorem dX0_init_15 : decode cX0_init 15 = .ok (.iload_n 1, 1) := by decide +kernel
theorem dX0_init_16 : decode cX0_init 16 = .ok (.bipush 8, 2) := by decide +kernel
theorem dX0_init_18 : decode cX0_init 18 = .ok (.if_icmp .ge 22, 3) := by decide +kernel
theorem dX0_init_21 : decode cX0_init 21 = .ok (.aload_n 0, 1) := by decide +kernel
theorem dX0_init_22 : decode cX0_init 22 = .ok (.getfield 11, 3) := by decide +kernel
theorem dX0_init_25 : decode cX0_init 25 = .ok (.iload_n 1, 1) := by decide +kernel
theorem dX0_init_26 : decode cX0_init 26 = .ok (.new 9, 3) := by decide +kernel
theorem dX0_init_29 : decode cX0_init 29 = .ok (.dup, 1) := by decide +kernel
theorem dX0_init_30 : decode cX0_init 30 = .ok (.invokespecial 17, 3) := by decide +kernel
theorem dX0_init_33 : decode cX0_init 33 = .ok (.aastore, 1) := by decide +kernel
theorem dX0_init_34 : decode cX0_init 34 = .ok (.iinc 1 1, 3) := by decide +kernel
theorem dX0_init_37 : decode cX0_init 37 = .ok (.goto (-22), 3) := by decide +kernel
theorem dX0_init_40 : decode cX0_init 40 = .ok (.aload_n 0, 1) := by decide +kernel
theorem dX0_init_41 : decode cX0_init 41 = .ok (.iconst 5, 1) := by decide +kernel
theorem dX0_init_42 : decode cX0_init 42 = .ok (.newarray .int, 2) := by decide +kernel
theorem dX0_init_44 : decode cX0_init 44 = .ok (.putfield 18, 3) := by decide +kernel
theorem dX0_init_47 : decode cX0_init 47 = .ok (.iconst 0, 1) := by decide +kernel
theorem dX0_init_48 : decode cX0_init 48 = .ok (.istore_n 1, 1) := by decide +kernel
theorem dX0_init_49 : decode cX0_init 49 = .ok (.iload_n 1, 1) := by decide +kernel
theorem dX0_init_50 : decode cX0_init 50 = .ok (.iconst 5, 1) := by decide +kernel
theorem dX0_init_51 : decode cX0_init 51 = .ok (.if_icmp .ge 20, 3) := by decide +kernel
theorem dX0_init_54 : decode cX0_init 54 = .ok (.aload_n 0, 1) := by decide +kernel
theorem dX0_init_55 : decode cX0_init 55 = .ok (.getfield 18, 3) := by decide +kernel
theorem dX0_init_58 : decode cX0_init 58 = .ok (.iload_n 1, 1) := by decide +kernel
theorem dX0_init_59 : decode cX0_init 59 = .ok (.getstatic 22, 3) := by decide +kernel
theorem dX0_init_62 : decode cX0_init 62 = .ok (.iload_n 1, 1) := by decide +kernel
theorem dX0_init_63 : decode cX0_init 63 = .ok (.iaload, 1) := by decide +kernel
theorem dX0_init_64 : decode cX0_init 64 = .ok (.iastore, 1) := by decide +kernel
theorem dX0_init_65 : decode cX0_init 65 = .ok (.iinc 1 1, 3) := by decide +kernel
theorem dX0_init_68 : decode cX0_init 68 = .ok (.goto (-19), 3) := by decide +kernel
theorem dX0_init_71 : decode cX0_init 71 = .ok (.aload_n 0, 1) := by decide +kernel
theorem dX0_init_72 : decode cX0_init 72 = .ok (.iconst (-1), 1) := by decide +kernel
theorem dX0_init_73 : decode cX0_init 73 = .ok (.putfield 25, 3) := by decide +kernel
theorem dX0_init_76 : decode cX0_init 76 = .ok (.return_, 1) := by decide +kernel
theorem dX0_copyFrom_0 : decode cX0_copyFrom 0 = .ok (.iconst 0, 1) := by decide +kernel
theorem dX0_copyFrom_1 : decode cX0_copyFrom 1 = .ok (.istore_n 2, 1) := by decide +kernel
theorem dX0_copyFrom_2 : decode cX0_copyFrom 2 = .ok (.iload_n 2, 1) := by decide +kernel
theorem dX0_copyFrom_3 : decode cX0_copyFrom 3 = .ok (.bipush 8, 2) := by decide +kernel
theorem dX0_copyFrom_5 : decode cX0_copyFrom 5 = .ok (.if_icmp .ge 24, 3) := by decide +kernel
theorem dX0_copyFrom_8 : decode cX0_copyFrom 8 = .ok (.aload_n 0, 1) := by decide +kernel
theorem dX0_copyFrom_9 : decode cX0_copyFrom 9 = .ok (.getfield 11, 3) := by decide +kernel
theorem dX0_copyFrom_12 : decode cX0_copyFrom 12 = .ok (.iload_n 2, 1) := by decide +kernel
theorem dX0_copyFrom_13 : decode cX0_copyFrom 13 = .ok (.aaload, 1) := by decide +kernel
theorem dX0_copyFrom_14 : decode cX0_copyFrom 14 = .ok (.aload_n 1, 1) := by decide +kernel
theorem dX0_copyFrom_15 : decode cX0_copyFrom 15 = .ok (.getfield 11, 3) := by decide +kernel
theorem dX0_copyFrom_18 : decode cX0_copyFrom 18 = .ok (.iload_n 2, 1) := by decide +kernel
theorem dX0_copyFrom_19 : decode cX0_copyFrom 19 = .ok (.aaload, 1) := by decide +kernel
theorem dX0_copyFrom_20 : decode cX0_copyFrom 20 = .ok (.invokevirtual 29, 3) := by decide +kernel
theorem dX0_copyFrom_23 : decode cX0_copyFrom 23 = .ok (.iinc 2 1, 3) := by decide +kernel
theorem dX0_copyFrom_26 : decode cX0_copyFrom 26 = .ok (.goto (-24), 3) := by decide +kernel
theorem dX0_copyFrom_29 : decode cX0_copyFrom 29 = .ok (.iconst 0, 1) := by decide +kernel
theorem dX0_copyFrom_30 : decode cX0_copyFrom 30 = .ok (.istore_n 2, 1) := by decide +kernel
theorem dX0_copyFrom_31 : decode cX0_copyFrom 31 = .ok (.iload_n 2, 1) := by decide +kernel
theorem dX0_copyFrom_32 : decode cX0_copyFrom 32 = .ok (.iconst 5, 1) := by decide +kernel
theorem dX0_copyFrom_33 : decode cX0_copyFrom 33 = .ok (.if_icmp .ge 21, 3) := by decide +kernel
theorem dX0_copyFrom_36 : decode cX0_copyFrom 36 = .ok (.aload_n 0, 1) := by decide +kernel
theorem dX0_copyFrom_37 : decode cX0_copyFrom 37 = .ok (.getfield 18, 3) := by decide +kernel
theorem dX0_copyFrom_40 : decode cX0_copyFrom 40 = .ok (.iload_n 2, 1) := by decide +kernel
theorem dX0_copyFrom_41 : decode cX0_copyFrom 41 = .ok (.aload_n 1, 1) := by decide +kernel
theorem dX0_copyFrom_42 : decode cX0_copyFrom 42 = .ok (.getfield 18, 3) := by decide +kernel
theorem dX0_copyFrom_45 : decode cX0_copyFrom 45 = .ok (.iload_n 2, 1) := by decide +kernel
theorem dX0_copyFrom_46 : decode cX0_copyFrom 46 = .ok (.iaload, 1) := by decide +kernel
theorem dX0_copyFrom_47 : decode cX0_copyFrom 47 = .ok (.iastore, 1) := by decide +kernel
theorem dX0_copyFrom_48 : decode cX0_copyFrom 48 = .ok (.iinc 2 1, 3) := by decide +kernel
theorem dX0_copyFrom_51 : decode cX0_copyFrom 51 = .ok (.goto (-20), 3) := by decide +kernel
theorem dX0_copyFrom_54 : decode cX0_copyFrom 54 = .ok (.aload_n 0, 1) := by decide +kernel
theorem dX0_copyFrom_55 : decode cX0_copyFrom 55 = .ok (.aload_n 1, 1) := by decide +kernel
theorem dX0_copyFrom_56 : decode cX0_copyFrom 56 = .ok (.getfield 33, 3) := by decide +kernel
theorem dX0_copyFrom_59 : decode cX0_copyFrom 59 = .ok (.putfield 33, 3) := by decide +kernel
theorem dX0_copyFrom_62 : decode cX0_copyFrom 62 = .ok (.aload_n 0, 1) := by decide +kernel
theorem dX0_copyFrom_63 : decode cX0_copyFrom 63 = .ok (.aload_n 1, 1) := by decide +kernel
theorem dX0_copyFrom_64 : decode cX0_copyFrom 64 = .ok (.getfield 36, 3) := by decide +kernel
theorem dX0_copyFrom_67 : decode cX0_copyFrom 67 = .ok (.putfield 36, 3) := by decide +kernel
theorem dX0_copyFrom_70 : decode cX0_copyFrom 70 = .ok (.aload_n 0, 1) := by decide +kernel
theorem dX0_copyFrom_71 : decode cX0_copyFrom 71 = .ok (.aload_n 1, 1) := by decide +kernel
theorem dX0_copyFrom_72 : decode cX0_copyFrom 72 = .ok (.getfield 39, 3) := by decide +kernel
theorem dX0_copyFrom_75 : decode cX0_copyFrom 75 = .ok (.putfield 39, 3) := by decide +kernel
theorem dX0_copyFrom_78 : decode cX0_copyFrom 78 = .ok (.aload_n 0, 1) := by decide +kernel
theorem dX0_copyFrom_79 : decode cX0_copyFrom 79 = .ok (.aload_n 1, 1) := by decide +kernel
theorem dX0_copyFrom_80 : decode cX0_copyFrom 80 = .ok (.getfield 42, 3) := by decide +kernel
theorem dX0_copyFrom_83 : decode cX0_copyFrom 83 = .ok (.putfield 42, 3) := by decide +kernel
theorem dX0_copyFrom_86 : decode cX0_copyFrom 86 = .ok (.aload_n 0, 1) := by decide +kernel
theorem dX0_copyFrom_87 : decode cX0_copyFrom 87 = .ok (.aload_n 1, 1) := by decide +kernel
theorem dX0_copyFrom_88 : decode cX0_copyFrom 88 = .ok (.getfield 45, 3) := by decide +kernel
theorem dX0_copyFrom_91 : decode cX0_copyFrom 91 = .ok (.putfield 45, 3) := by decide +kernel
theorem dX0_copyFrom_94 : decode cX0_copyFrom 94 = .ok (.aload_n 0, 1) := by decide +kernel
theorem dX0_copyFrom_95 : decode cX0_copyFrom 95 = .ok (.aload_n 1, 1) := by decide +kernel
theorem dX0_copyFrom_96 : decode cX0_copyFrom 96 = .ok (.getfield 25, 3) := by decide +kernel
theorem dX0_copyFrom_99 : decode cX0_copyFrom 99 = .ok (.putfield 25, 3) := by decide +kernel
theorem dX0_copyFrom_102 : decode cX0_copyFrom 102 = .ok (.aload_n 0, 1) := by decide +kernel
theorem dX0_copyFrom_103 : decode cX0_copyFrom 103 = .ok (.aload_n 1, 1) := by decide +kernel
theorem dX0_copyFrom_104 : decode cX0_copyFrom 104 = .ok (.getfield 48, 3) := by decide +kernel
theorem dX0_copyFrom_107 : decode cX0_copyFrom 107 = .ok (.putfield 48, 3) := by decide +kernel
theorem dX0_copyFrom_110 : decode cX0_copyFrom 110 = .ok (.return_, 1) := by decide +kernel
theorem dX0_isMember_0 : decode cX0_isMember 0 = .ok (.iload_n 1, 1) := by decide +kernel
theorem dX0_isMember_1 : decode cX0_isMember 1 = .ok (.ifCond .lt 15, 3) := by decide +kernel
theorem dX0_isMember_4 : decode cX0_isMember 4 = .ok (.iload_n 1, 1) := by decide +kernel
theorem dX0_isMember_5 : decode cX0_isMember 5 = .ok (.aload_n 0, 1) := by decide +kernel
theorem dX0_isMember_6 : decode cX0_isMember 6 = .ok (.getfield 33, 3) := by decide +kernel
theorem dX0_isMember_9 : decode cX0_isMember 9 = .ok (.if_icmp .ge 7, 3) := by decide +kernel
theorem dX0_isMember_12 : decode cX0_isMember 12 = .ok (.iconst 1, 1) := by decide +kernel
theorem dX0_isMember_13 : decode cX0_isMember 13 = .ok (.goto 4, 3) := by decide +kernel
theorem dX0_isMember_16 : decode cX0_isMember 16 = .ok (.iconst 0, 1) := by decide +kernel
theorem dX0_isMember_17 : decode cX0_isMember 17 = .ok (.ireturn, 1) := by decide +kernel
theorem dX0_admit_0 : decode cX0_admit 0 = .ok (.aload_n 0, 1) := by decide +kernel
theorem dX0_admit_1 : decode cX0_admit 1 = .ok (.getfield 33, 3) := by decide +kernel
theorem dX0_admit_4 : decode cX0_admit 4 = .ok (.istore_n 1, 1) := by decide +kernel
theorem dX0_admit_5 : decode cX0_admit 5 = .ok (.aload_n 0, 1) := by decide +kernel
theorem dX0_admit_6 : decode cX0_admit 6 = .ok (.dup, 1) := by decide +kernel
theorem dX0_admit_7 : decode cX0_admit 7 = .ok (.getfield 33, 3) := by decide +kernel
theorem dX0_admit_10 : decode cX0_admit 10 = .ok (.iconst 1, 1) := by decide +kernel
theorem dX0_admit_11 : decode cX0_admit 11 = .ok (.iadd, 1) := by decide +kernel
theorem dX0_admit_12 : decode cX0_admit 12 = .ok (.putfield 33, 3) := by decide +kernel
theorem dX0_admit_15 : decode cX0_admit 15 = .ok (.aload_n 0, 1) := by decide +kernel
theorem dX0_admit_16 : decode cX0_admit 16 = .ok (.getfield 11, 3) := by decide +kernel
theorem dX0_admit_19 : decode cX0_admit 19 = .ok (.iload_n 1, 1) := by decide +kernel
theorem dX0_admit_20 : decode cX0_admit 20 = .ok (.aaload, 1) := by decide +kernel
theorem dX0_admit_21 : decode cX0_admit 21 = .ok (.astore_n 2, 1) := by decide +kernel
theorem dX0_admit_22 : decode cX0_admit 22 = .ok (.aload_n 2, 1) := by decide +kernel
theorem dX0_admit_23 : decode cX0_admit 23 = .ok (.iconst 1, 1) := by decide +kernel
theorem dX0_admit_24 : decode cX0_admit 24 = .ok (.putfield 51, 3) := by decide +kernel
theorem dX0_admit_27 : decode cX0_admit 27 = .ok (.aload_n 2, 1) := by decide +kernel
theorem dX0_admit_28 : decode cX0_admit 28 = .ok (.aload_n 0, 1) := by decide +kernel
theorem dX0_admit_29 : decode cX0_admit 29 = .ok (.getfield 18, 3) := by decide +kernel
theorem dX0_admit_32 : decode cX0_admit 32 = .ok (.iconst 1, 1) := by decide +kernel
theorem dX0_admit_33 : decode cX0_admit 33 = .ok (.iaload, 1) := by decide +kernel
theorem dX0_admit_34 : decode cX0_admit 34 = .ok (.putfield 55, 3) := by decide +kernel
theorem dX0_admit_37 : decode cX0_admit 37 = .ok (.aload_n 2, 1) := by decide +kernel
theorem dX0_admit_38 : decode cX0_admit 38 = .ok (.aload_n 0, 1) := by decide +kernel
theorem dX0_admit_39 : decode cX0_admit 39 = .ok (.getfield 18, 3) := by decide +kernel
theorem dX0_admit_42 : decode cX0_admit 42 = .ok (.iconst 1, 1) := by decide +kernel
theorem dX0_admit_43 : decode cX0_admit 43 = .ok (.iaload, 1) := by decide +kernel
theorem dX0_admit_44 : decode cX0_admit 44 = .ok (.putfield 58, 3) := by decide +kernel
theorem dX0_admit_47 : decode cX0_admit 47 = .ok (.aload_n 0, 1) := by decide +kernel
theorem dX0_admit_48 : decode cX0_admit 48 = .ok (.dup, 1) := by decide +kernel
theorem dX0_admit_49 : decode cX0_admit 49 = .ok (.getfield 36, 3) := by decide +kernel
theorem dX0_admit_52 : decode cX0_admit 52 = .ok (.aload_n 0, 1) := by decide +kernel
theorem dX0_admit_53 : decode cX0_admit 53 = .ok (.getfield 18, 3) := by decide +kernel
theorem dX0_admit_56 : decode cX0_admit 56 = .ok (.iconst 1, 1) := by decide +kernel
theorem dX0_admit_57 : decode cX0_admit 57 = .ok (.iaload, 1) := by decide +kernel
theorem dX0_admit_58 : decode cX0_admit 58 = .ok (.isub, 1) := by decide +kernel
theorem dX0_admit_59 : decode cX0_admit 59 = .ok (.putfield 36, 3) := by decide +kernel
theorem dX0_admit_62 : decode cX0_admit 62 = .ok (.iload_n 1, 1) := by decide +kernel
theorem dX0_admit_63 : decode cX0_admit 63 = .ok (.ireturn, 1) := by decide +kernel
theorem dX0_dismiss_0 : decode cX0_dismiss 0 = .ok (.aload_n 0, 1) := by decide +kernel
theorem dX0_dismiss_1 : decode cX0_dismiss 1 = .ok (.getfield 11, 3) := by decide +kernel
theorem dX0_dismiss_4 : decode cX0_dismiss 4 = .ok (.iload_n 1, 1) := by decide +kernel
theorem dX0_dismiss_5 : decode cX0_dismiss 5 = .ok (.aaload, 1) := by decide +kernel
theorem dX0_dismiss_6 : decode cX0_dismiss 6 = .ok (.astore_n 2, 1) := by decide +kernel
theorem dX0_dismiss_7 : decode cX0_dismiss 7 = .ok (.aload_n 2, 1) := by decide +kernel
theorem dX0_dismiss_8 : decode cX0_dismiss 8 = .ok (.getfield 55, 3) := by decide +kernel
theorem dX0_dismiss_11 : decode cX0_dismiss 11 = .ok (.istore_n 3, 1) := by decide +kernel
theorem dX0_dismiss_12 : decode cX0_dismiss 12 = .ok (.aload_n 0, 1) := by decide +kernel
theorem dX0_dismiss_13 : decode cX0_dismiss 13 = .ok (.iload_n 1, 1) := by decide +kernel
theorem dX0_dismiss_14 : decode cX0_dismiss 14 = .ok (.iload_n 3, 1) := by decide +kernel
theorem dX0_dismiss_15 : decode cX0_dismiss 15 = .ok (.invokevirtual 61, 3) := by decide +kernel
theorem dX0_dismiss_18 : decode cX0_dismiss 18 = .ok (.aload_n 2, 1) := by decide +kernel
theorem dX0_dismiss_19 : decode cX0_dismiss 19 = .ok (.iconst 0, 1) := by decide +kernel
theorem dX0_dismiss_20 : decode cX0_dismiss 20 = .ok (.putfield 58, 3) := by decide +kernel
theorem dX0_dismiss_23 : decode cX0_dismiss 23 = .ok (.aload_n 2, 1) := by decide +kernel
theorem dX0_dismiss_24 : decode cX0_dismiss 24 = .ok (.iconst 0, 1) := by decide +kernel
theorem dX0_dismiss_25 : decode cX0_dismiss 25 = .ok (.putfield 51, 3) := by decide +kernel
theorem dX0_dismiss_28 : decode cX0_dismiss 28 = .ok (.aload_n 2, 1) := by decide +kernel
theorem dX0_dismiss_29 : decode cX0_dismiss 29 = .ok (.iconst 0, 1) := by decide +kernel
theorem dX0_dismiss_30 : decode cX0_dismiss 30 = .ok (.putfield 65, 3) := by decide +kernel
theorem dX0_dismiss_33 : decode cX0_dismiss 33 = .ok (.aload_n 0, 1) := by decide +kernel
theorem dX0_dismiss_34 : decode cX0_dismiss 34 = .ok (.getfield 25, 3) := by decide +kernel
theorem dX0_dismiss_37 : decode cX0_dismiss 37 = .ok (.iload_n 1, 1) := by decide +kernel
theorem dX0_dismiss_38 : decode cX0_dismiss 38 = .ok (.if_icmp .ne 10, 3) := by decide +kernel
theorem dX0_dismiss_41 : decode cX0_dismiss 41 = .ok (.aload_n 0, 1) := by decide +kernel
theorem dX0_dismiss_42 : decode cX0_dismiss 42 = .ok (.invokevirtual 68, 3) := by decide +kernel
theorem dX0_dismiss_45 : decode cX0_dismiss 45 = .ok (.goto 15, 3) := by decide +kernel
theorem dX0_dismiss_48 : decode cX0_dismiss 48 = .ok (.aload_n 0, 1) := by decide +kernel
theorem dX0_dismiss_49 : decode cX0_dismiss 49 = .ok (.invokevirtual 71, 3) := by decide +kernel
theorem dX0_dismiss_52 : decode cX0_dismiss 52 = .ok (.ifCond .eq 8, 3) := by decide +kernel
theorem dX0_dismiss_55 : decode cX0_dismiss 55 = .ok (.aload_n 0, 1) := by decide +kernel
theorem dX0_dismiss_56 : decode cX0_dismiss 56 = .ok (.invokevirtual 75, 3) := by decide +kernel
theorem dX0_dismiss_59 : decode cX0_dismiss 59 = .ok (.pop, 1) := by decide +kernel
theorem dX0_dismiss_60 : decode cX0_dismiss 60 = .ok (.iload_n 3, 1) := by decide +kernel
theorem dX0_dismiss_61 : decode cX0_dismiss 61 = .ok (.ireturn, 1) := by decide +kernel
theorem dX0_payToCommon_0 : decode cX0_payToCommon 0 = .ok (.aload_n 0, 1) := by decide +kernel
theorem dX0_payToCommon_1 : decode cX0_payToCommon 1 = .ok (.getfield 11, 3) := by decide +kernel
theorem dX0_payToCommon_4 : decode cX0_payToCommon 4 = .ok (.iload_n 1, 1) := by decide +kernel
theorem dX0_payToCommon_5 : decode cX0_payToCommon 5 = .ok (.aaload, 1) := by decide +kernel
theorem dX0_payToCommon_6 : decode cX0_payToCommon 6 = .ok (.dup, 1) := by decide +kernel
theorem dX0_payToCommon_7 : decode cX0_payToCommon 7 = .ok (.getfield 55, 3) := by decide +kernel
theorem dX0_payToCommon_10 : decode cX0_payToCommon 10 = .ok (.iload_n 2, 1) := by decide +kernel
theorem dX0_payToCommon_11 : decode cX0_payToCommon 11 = .ok (.isub, 1) := by decide +kernel
theorem dX0_payToCommon_12 : decode cX0_payToCommon 12 = .ok (.putfield 55, 3) := by decide +kernel
theorem dX0_payToCommon_15 : decode cX0_payToCommon 15 = .ok (.aload_n 0, 1) := by decide +kernel
theorem dX0_payToCommon_16 : decode cX0_payToCommon 16 = .ok (.dup, 1) := by decide +kernel
theorem dX0_payToCommon_17 : decode cX0_payToCommon 17 = .ok (.getfield 36, 3) := by decide +kernel
theorem dX0_payToCommon_20 : decode cX0_payToCommon 20 = .ok (.iload_n 2, 1) := by decide +kernel
theorem dX0_payToCommon_21 : decode cX0_payToCommon 21 = .ok (.iadd, 1) := by decide +kernel
theorem dX0_payToCommon_22 : decode cX0_payToCommon 22 = .ok (.putfield 36, 3) := by decide +kernel
theorem dX0_payToCommon_25 : decode cX0_payToCommon 25 = .ok (.return_, 1) := by decide +kernel
theorem dX0_allowsDeal_0 : decode cX0_allowsDeal 0 = .ok (.aload_n 0, 1) := by decide +kernel
theorem dX0_allowsDeal_1 : decode cX0_allowsDeal 1 = .ok (.iload_n 1, 1) := by decide +kernel
theorem dX0_allowsDeal_2 : decode cX0_allowsDeal 2 = .ok (.invokevirtual 79, 3) := by decide +kernel
theorem dX0_allowsDeal_5 : decode cX0_allowsDeal 5 = .ok (.ifCond .eq 20, 3) := by decide +kernel
theorem dX0_allowsDeal_8 : decode cX0_allowsDeal 8 = .ok (.aload_n 0, 1) := by decide +kernel
theorem dX0_allowsDeal_9 : decode cX0_allowsDeal 9 = .ok (.iload_n 2, 1) := by decide +kernel
theorem dX0_allowsDeal_10 : decode cX0_allowsDeal 10 = .ok (.invokevirtual 79, 3) := by decide +kernel
theorem dX0_allowsDeal_13 : decode cX0_allowsDeal 13 = .ok (.ifCond .eq 12, 3) := by decide +kernel
theorem dX0_allowsDeal_16 : decode cX0_allowsDeal 16 = .ok (.aload_n 0, 1) := by decide +kernel
theorem dX0_allowsDeal_17 : decode cX0_allowsDeal 17 = .ok (.iload_n 1, 1) := by decide +kernel
theorem dX0_allowsDeal_18 : decode cX0_allowsDeal 18 = .ok (.iload_n 2, 1) := by decide +kernel
theorem dX0_allowsDeal_19 : decode cX0_allowsDeal 19 = .ok (.invokevirtual 83, 3) := by decide +kernel
theorem dX0_allowsDeal_22 : decode cX0_allowsDeal 22 = .ok (.ifCond .ne 5, 3) := by decide +kernel
theorem dX0_allowsDeal_25 : decode cX0_allowsDeal 25 = .ok (.iconst 0, 1) := by decide +kernel
theorem dX0_allowsDeal_26 : decode cX0_allowsDeal 26 = .ok (.ireturn, 1) := by decide +kernel
theorem dX0_allowsDeal_27 : decode cX0_allowsDeal 27 = .ok (.aload_n 0, 1) := by decide +kernel
theorem dX0_allowsDeal_28 : decode cX0_allowsDeal 28 = .ok (.iload_n 2, 1) := by decide +kernel
theorem dX0_allowsDeal_29 : decode cX0_allowsDeal 29 = .ok (.aload_n 0, 1) := by decide +kernel
theorem dX0_allowsDeal_30 : decode cX0_allowsDeal 30 = .ok (.getfield 11, 3) := by decide +kernel
theorem dX0_allowsDeal_33 : decode cX0_allowsDeal 33 = .ok (.iload_n 1, 1) := by decide +kernel
theorem dX0_allowsDeal_34 : decode cX0_allowsDeal 34 = .ok (.aaload, 1) := by decide +kernel
theorem dX0_allowsDeal_35 : decode cX0_allowsDeal 35 = .ok (.iload_n 3, 1) := by decide +kernel
theorem dX0_allowsDeal_36 : decode cX0_allowsDeal 36 = .ok (.iload 4, 2) := by decide +kernel
theorem dX0_allowsDeal_38 : decode cX0_allowsDeal 38 = .ok (.invokevirtual 87, 3) := by decide +kernel
theorem dX0_allowsDeal_41 : decode cX0_allowsDeal 41 = .ok (.invokevirtual 91, 3) := by decide +kernel
theorem dX0_allowsDeal_44 : decode cX0_allowsDeal 44 = .ok (.ireturn, 1) := by decide +kernel
theorem dX0_areBothThere_0 : decode cX0_areBothThere 0 = .ok (.aload_n 0, 1) := by decide +kernel
theorem dX0_areBothThere_1 : decode cX0_areBothThere 1 = .ok (.getfield 11, 3) := by decide +kernel
theorem dX0_areBothThere_4 : decode cX0_areBothThere 4 = .ok (.iload_n 1, 1) := by decide +kernel
theorem dX0_areBothThere_5 : decode cX0_areBothThere 5 = .ok (.aaload, 1) := by decide +kernel
theorem dX0_areBothThere_6 : decode cX0_areBothThere 6 = .ok (.getfield 51, 3) := by decide +kernel
theorem dX0_areBothThere_9 : decode cX0_areBothThere 9 = .ok (.ifCond .eq 19, 3) := by decide +kernel
theorem dX0_areBothThere_12 : decode cX0_areBothThere 12 = .ok (.aload_n 0, 1) := by decide +kernel
theorem dX0_areBothThere_13 : decode cX0_areBothThere 13 = .ok (.getfield 11, 3) := by decide +kernel
theorem dX0_areBothThere_16 : decode cX0_areBothThere 16 = .ok (.iload_n 2, 1) := by decide +kernel
theorem dX0_areBothThere_17 : decode cX0_areBothThere 17 = .ok (.aaload, 1) := by decide +kernel
theorem dX0_areBothThere_18 : decode cX0_areBothThere 18 = .ok (.getfield 51, 3) := by decide +kernel
theorem dX0_areBothThere_21 : decode cX0_areBothThere 21 = .ok (.ifCond .eq 7, 3) := by decide +kernel
theorem dX0_areBothThere_24 : decode cX0_areBothThere 24 = .ok (.iconst 1, 1) := by decide +kernel
theorem dX0_areBothThere_25 : decode cX0_areBothThere 25 = .ok (.goto 4, 3) := by decide +kernel
theorem dX0_areBothThere_28 : decode cX0_areBothThere 28 = .ok (.iconst 0, 1) := by decide +kernel
theorem dX0_areBothThere_29 : decode cX0_areBothThere 29 = .ok (.ireturn, 1) := by decide +kernel
theorem dX0_canPay_0 : decode cX0_canPay 0 = .ok (.aload_n 0, 1) := by decide +kernel
theorem dX0_canPay_1 : decode cX0_canPay 1 = .ok (.getfield 11, 3) := by decide +kernel
theorem dX0_canPay_4 : decode cX0_canPay 4 = .ok (.iload_n 1, 1) := by decide +kernel
theorem dX0_canPay_5 : decode cX0_canPay 5 = .ok (.aaload, 1) := by decide +kernel
theorem dX0_canPay_6 : decode cX0_canPay 6 = .ok (.getfield 55, 3) := by decide +kernel
theorem dX0_canPay_9 : decode cX0_canPay 9 = .ok (.iload_n 2, 1) := by decide +kernel
theorem dX0_canPay_10 : decode cX0_canPay 10 = .ok (.isub, 1) := by decide +kernel
theorem dX0_canPay_11 : decode cX0_canPay 11 = .ok (.aload_n 0, 1) := by decide +kernel
theorem dX0_canPay_12 : decode cX0_canPay 12 = .ok (.getfield 18, 3) := by decide +kernel
theorem dX0_canPay_15 : decode cX0_canPay 15 = .ok (.iconst 0, 1) := by decide +kernel
theorem dX0_canPay_16 : decode cX0_canPay 16 = .ok (.iaload, 1) := by decide +kernel
theorem dX0_canPay_17 : decode cX0_canPay 17 = .ok (.ineg, 1) := by decide +kernel
theorem dX0_canPay_18 : decode cX0_canPay 18 = .ok (.if_icmp .lt 7, 3) := by decide +kernel
theorem dX0_canPay_21 : decode cX0_canPay 21 = .ok (.iconst 1, 1) := by decide +kernel
theorem dX0_canPay_22 : decode cX0_canPay 22 = .ok (.goto 4, 3) := by decide +kernel
theorem dX0_canPay_25 : decode cX0_canPay 25 = .ok (.iconst 0, 1) := by decide +kernel
theorem dX0_canPay_26 : decode cX0_canPay 26 = .ok (.ireturn, 1) := by decide +kernel
theorem dX0_makeDeal_0 : decode cX0_makeDeal 0 = .ok (.aload_n 0, 1) := by decide +kernel
theorem dX0_makeDeal_1 : decode cX0_makeDeal 1 = .ok (.getfield 11, 3) := by decide +kernel
theorem dX0_makeDeal_4 : decode cX0_makeDeal 4 = .ok (.iload_n 1, 1) := by decide +kernel
theorem dX0_makeDeal_5 : decode cX0_makeDeal 5 = .ok (.aaload, 1) := by decide +kernel
theorem dX0_makeDeal_6 : decode cX0_makeDeal 6 = .ok (.astore 5, 2) := by decide +kernel
theorem dX0_makeDeal_8 : decode cX0_makeDeal 8 = .ok (.aload_n 0, 1) := by decide +kernel
theorem dX0_makeDeal_9 : decode cX0_makeDeal 9 = .ok (.getfield 11, 3) := by decide +kernel
theorem dX0_makeDeal_12 : decode cX0_makeDeal 12 = .ok (.iload_n 2, 1) := by decide +kernel
theorem dX0_makeDeal_13 : decode cX0_makeDeal 13 = .ok (.aaload, 1) := by decide +kernel
theorem dX0_makeDeal_14 : decode cX0_makeDeal 14 = .ok (.astore 6, 2) := by decide +kernel
theorem dX0_makeDeal_16 : decode cX0_makeDeal 16 = .ok (.aload 5, 2) := by decide +kernel
theorem dX0_makeDeal_18 : decode cX0_makeDeal 18 = .ok (.iload_n 3, 1) := by decide +kernel
theorem dX0_makeDeal_19 : decode cX0_makeDeal 19 = .ok (.iload 4, 2) := by decide +kernel
theorem dX0_makeDeal_21 : decode cX0_makeDeal 21 = .ok (.invokevirtual 87, 3) := by decide +kernel
theorem dX0_makeDeal_24 : decode cX0_makeDeal 24 = .ok (.istore 7, 2) := by decide +kernel
theorem dX0_makeDeal_26 : decode cX0_makeDeal 26 = .ok (.aload 6, 2) := by decide +kernel
theorem dX0_makeDeal_28 : decode cX0_makeDeal 28 = .ok (.dup, 1) := by decide +kernel
theorem dX0_makeDeal_29 : decode cX0_makeDeal 29 = .ok (.getfield 55, 3) := by decide +kernel
theorem dX0_makeDeal_32 : decode cX0_makeDeal 32 = .ok (.iload 7, 2) := by decide +kernel
theorem dX0_makeDeal_34 : decode cX0_makeDeal 34 = .ok (.isub, 1) := by decide +kernel
theorem dX0_makeDeal_35 : decode cX0_makeDeal 35 = .ok (.putfield 55, 3) := by decide +kernel
theorem dX0_makeDeal_38 : decode cX0_makeDeal 38 = .ok (.aload 6, 2) := by decide +kernel
theorem dX0_makeDeal_40 : decode cX0_makeDeal 40 = .ok (.dup, 1) := by decide +kernel
theorem dX0_makeDeal_41 : decode cX0_makeDeal 41 = .ok (.getfield 94, 3) := by decide +kernel
theorem dX0_makeDeal_44 : decode cX0_makeDeal 44 = .ok (.iload 7, 2) := by decide +kernel
theorem dX0_makeDeal_46 : decode cX0_makeDeal 46 = .ok (.iadd, 1) := by decide +kernel
theorem dX0_makeDeal_47 : decode cX0_makeDeal 47 = .ok (.putfield 94, 3) := by decide +kernel
theorem dX0_makeDeal_50 : decode cX0_makeDeal 50 = .ok (.aload 6, 2) := by decide +kernel
theorem dX0_makeDeal_52 : decode cX0_makeDeal 52 = .ok (.dup, 1) := by decide +kernel
theorem dX0_makeDeal_53 : decode cX0_makeDeal 53 = .ok (.getfield 97, 3) := by decide +kernel
theorem dX0_makeDeal_56 : decode cX0_makeDeal 56 = .ok (.iload 4, 2) := by decide +kernel
theorem dX0_makeDeal_58 : decode cX0_makeDeal 58 = .ok (.iadd, 1) := by decide +kernel
theorem dX0_makeDeal_59 : decode cX0_makeDeal 59 = .ok (.putfield 97, 3) := by decide +kernel
theorem dX0_makeDeal_62 : decode cX0_makeDeal 62 = .ok (.aload 6, 2) := by decide +kernel
theorem dX0_makeDeal_64 : decode cX0_makeDeal 64 = .ok (.iconst 1, 1) := by decide +kernel
theorem dX0_makeDeal_65 : decode cX0_makeDeal 65 = .ok (.putfield 100, 3) := by decide +kernel
theorem dX0_makeDeal_68 : decode cX0_makeDeal 68 = .ok (.aload 5, 2) := by decide +kernel
theorem dX0_makeDeal_70 : decode cX0_makeDeal 70 = .ok (.dup, 1) := by decide +kernel
theorem dX0_makeDeal_71 : decode cX0_makeDeal 71 = .ok (.getfield 55, 3) := by decide +kernel
theorem dX0_makeDeal_74 : decode cX0_makeDeal 74 = .ok (.iload 7, 2) := by decide +kernel
theorem dX0_makeDeal_76 : decode cX0_makeDeal 76 = .ok (.iadd, 1) := by decide +kernel
theorem dX0_makeDeal_77 : decode cX0_makeDeal 77 = .ok (.putfield 55, 3) := by decide +kernel
theorem dX0_makeDeal_80 : decode cX0_makeDeal 80 = .ok (.aload 5, 2) := by decide +kernel
theorem dX0_makeDeal_82 : decode cX0_makeDeal 82 = .ok (.dup, 1) := by decide +kernel
theorem dX0_makeDeal_83 : decode cX0_makeDeal 83 = .ok (.getfield 103, 3) := by decide +kernel
theorem dX0_makeDeal_86 : decode cX0_makeDeal 86 = .ok (.iload 7, 2) := by decide +kernel
theorem dX0_makeDeal_88 : decode cX0_makeDeal 88 = .ok (.iadd, 1) := by decide +kernel
theorem dX0_makeDeal_89 : decode cX0_makeDeal 89 = .ok (.putfield 103, 3) := by decide +kernel
theorem dX0_makeDeal_92 : decode cX0_makeDeal 92 = .ok (.aload 5, 2) := by decide +kernel
theorem dX0_makeDeal_94 : decode cX0_makeDeal 94 = .ok (.dup, 1) := by decide +kernel
theorem dX0_makeDeal_95 : decode cX0_makeDeal 95 = .ok (.getfield 106, 3) := by decide +kernel
theorem dX0_makeDeal_98 : decode cX0_makeDeal 98 = .ok (.iload 4, 2) := by decide +kernel
theorem dX0_makeDeal_100 : decode cX0_makeDeal 100 = .ok (.iadd, 1) := by decide +kernel
theorem dX0_makeDeal_101 : decode cX0_makeDeal 101 = .ok (.putfield 106, 3) := by decide +kernel
theorem dX0_makeDeal_104 : decode cX0_makeDeal 104 = .ok (.aload 5, 2) := by decide +kernel
theorem dX0_makeDeal_106 : decode cX0_makeDeal 106 = .ok (.iconst 1, 1) := by decide +kernel
theorem dX0_makeDeal_107 : decode cX0_makeDeal 107 = .ok (.putfield 100, 3) := by decide +kernel
theorem dX0_makeDeal_110 : decode cX0_makeDeal 110 = .ok (.aload 5, 2) := by decide +kernel
theorem dX0_makeDeal_112 : decode cX0_makeDeal 112 = .ok (.iload_n 3, 1) := by decide +kernel
theorem dX0_makeDeal_113 : decode cX0_makeDeal 113 = .ok (.iload 4, 2) := by decide +kernel
theorem dX0_makeDeal_115 : decode cX0_makeDeal 115 = .ok (.invokevirtual 109, 3) := by decide +kernel
theorem dX0_makeDeal_118 : decode cX0_makeDeal 118 = .ok (.aload_n 0, 1) := by decide +kernel
theorem dX0_makeDeal_119 : decode cX0_makeDeal 119 = .ok (.iload_n 1, 1) := by decide +kernel
theorem dX0_makeDeal_120 : decode cX0_makeDeal 120 = .ok (.iload 7, 2) := by decide +kernel
theorem dX0_makeDeal_122 : decode cX0_makeDeal 122 = .ok (.invokevirtual 112, 3) := by decide +kernel
theorem dX0_makeDeal_125 : decode cX0_makeDeal 125 = .ok (.aload_n 0, 1) := by decide +kernel
theorem dX0_makeDeal_126 : decode cX0_makeDeal 126 = .ok (.dup, 1) := by decide +kernel
theorem dX0_makeDeal_127 : decode cX0_makeDeal 127 = .ok (.getfield 45, 3) := by decide +kernel
theorem dX0_makeDeal_130 : decode cX0_makeDeal 130 = .ok (.iconst 1, 1) := by decide +kernel
theorem dX0_makeDeal_131 : decode cX0_makeDeal 131 = .ok (.iadd, 1) := by decide +kernel
theorem dX0_makeDeal_132 : decode cX0_makeDeal 132 = .ok (.putfield 45, 3) := by decide +kernel
theorem dX0_makeDeal_135 : decode cX0_makeDeal 135 = .ok (.iload 7, 2) := by decide +kernel
theorem dX0_makeDeal_137 : decode cX0_makeDeal 137 = .ok (.ireturn, 1) := by decide +kernel
theorem dX0_payLoanBack_0 : decode cX0_payLoanBack 0 = .ok (.iload_n 2, 1) := by decide +kernel
theorem dX0_payLoanBack_1 : decode cX0_payLoanBack 1 = .ok (.iconst 2, 1) := by decide +kernel
theorem dX0_payLoanBack_2 : decode cX0_payLoanBack 2 = .ok (.idiv, 1) := by decide +kernel
theorem dX0_payLoanBack_3 : decode cX0_payLoanBack 3 = .ok (.aload_n 0, 1) := by decide +kernel
theorem dX0_payLoanBack_4 : decode cX0_payLoanBack 4 = .ok (.getfield 11, 3) := by decide +kernel
theorem dX0_payLoanBack_7 : decode cX0_payLoanBack 7 = .ok (.iload_n 1, 1) := by decide +kernel
theorem dX0_payLoanBack_8 : decode cX0_payLoanBack 8 = .ok (.aaload, 1) := by decide +kernel
theorem dX0_payLoanBack_9 : decode cX0_payLoanBack 9 = .ok (.getfield 58, 3) := by decide +kernel
theorem dX0_payLoanBack_12 : decode cX0_payLoanBack 12 = .ok (.invokestatic 115, 3) := by decide +kernel
theorem dX0_payLoanBack_15 : decode cX0_payLoanBack 15 = .ok (.istore_n 3, 1) := by decide +kernel
theorem dX0_payLoanBack_16 : decode cX0_payLoanBack 16 = .ok (.aload_n 0, 1) := by decide +kernel
theorem dX0_payLoanBack_17 : decode cX0_payLoanBack 17 = .ok (.getfield 11, 3) := by decide +kernel
theorem dX0_payLoanBack_20 : decode cX0_payLoanBack 20 = .ok (.iload_n 1, 1) := by decide +kernel
theorem dX0_payLoanBack_21 : decode cX0_payLoanBack 21 = .ok (.aaload, 1) := by decide +kernel
theorem dX0_payLoanBack_22 : decode cX0_payLoanBack 22 = .ok (.dup, 1) := by decide +kernel
theorem dX0_payLoanBack_23 : decode cX0_payLoanBack 23 = .ok (.getfield 58, 3) := by decide +kernel
theorem dX0_payLoanBack_26 : decode cX0_payLoanBack 26 = .ok (.iload_n 3, 1) := by decide +kernel
theorem dX0_payLoanBack_27 : decode cX0_payLoanBack 27 = .ok (.isub, 1) := by decide +kernel
theorem dX0_payLoanBack_28 : decode cX0_payLoanBack 28 = .ok (.putfield 58, 3) := by decide +kernel
theorem dX0_payLoanBack_31 : decode cX0_payLoanBack 31 = .ok (.aload_n 0, 1) := by decide +kernel
theorem dX0_payLoanBack_32 : decode cX0_payLoanBack 32 = .ok (.iload_n 1, 1) := by decide +kernel
theorem dX0_payLoanBack_33 : decode cX0_payLoanBack 33 = .ok (.iload_n 3, 1) := by decide +kernel
theorem dX0_payLoanBack_34 : decode cX0_payLoanBack 34 = .ok (.invokevirtual 61, 3) := by decide +kernel
theorem dX0_payLoanBack_37 : decode cX0_payLoanBack 37 = .ok (.return_, 1) := by decide +kernel
theorem dX0_cheapestGiver_0 : decode cX0_cheapestGiver 0 = .ok (.iconst (-1), 1) := by decide +kernel
theorem dX0_cheapestGiver_1 : decode cX0_cheapestGiver 1 = .ok (.istore 4, 2) := by decide +kernel
theorem dX0_cheapestGiver_3 : decode cX0_cheapestGiver 3 = .ok (.iconst 0, 1) := by decide +kernel
theorem dX0_cheapestGiver_4 : decode cX0_cheapestGiver 4 = .ok (.istore 5, 2) := by decide +kernel
theorem dX0_cheapestGiver_6 : decode cX0_cheapestGiver 6 = .ok (.iload 5, 2) := by decide +kernel
theorem dX0_cheapestGiver_8 : decode cX0_cheapestGiver 8 = .ok (.aload_n 0, 1) := by decide +kernel
theorem dX0_cheapestGiver_9 : decode cX0_cheapestGiver 9 = .ok (.getfield 33, 3) := by decide +kernel
theorem dX0_cheapestGiver_12 : decode cX0_cheapestGiver 12 = .ok (.if_icmp .ge 50, 3) := by decide +kernel
theorem dX0_cheapestGiver_15 : decode cX0_cheapestGiver 15 = .ok (.iload 5, 2) := by decide +kernel
theorem dX0_cheapestGiver_17 : decode cX0_cheapestGiver 17 = .ok (.iload_n 1, 1) := by decide +kernel
theorem dX0_cheapestGiver_18 : decode cX0_cheapestGiver 18 = .ok (.if_icmp .eq 38, 3) := by decide +kernel
theorem dX0_cheapestGiver_21 : decode cX0_cheapestGiver 21 = .ok (.aload_n 0, 1) := by decide +kernel
theorem dX0_cheapestGiver_22 : decode cX0_cheapestGiver 22 = .ok (.iload 5, 2) := by decide +kernel
theorem dX0_cheapestGiver_24 : decode cX0_cheapestGiver 24 = .ok (.iload_n 1, 1) := by decide +kernel
theorem dX0_cheapestGiver_25 : decode cX0_cheapestGiver 25 = .ok (.iload_n 2, 1) := by decide +kernel
theorem dX0_cheapestGiver_26 : decode cX0_cheapestGiver 26 = .ok (.iload_n 3, 1) := by decide +kernel
theorem dX0_cheapestGiver_27 : decode cX0_cheapestGiver 27 = .ok (.invokevirtual 124, 3) := by decide +kernel
theorem dX0_cheapestGiver_30 : decode cX0_cheapestGiver 30 = .ok (.ifCond .eq 26, 3) := by decide +kernel
theorem dX0_cheapestGiver_33 : decode cX0_cheapestGiver 33 = .ok (.iload 4, 2) := by decide +kernel
theorem dX0_cheapestGiver_35 : decode cX0_cheapestGiver 35 = .ok (.iconst (-1), 1) := by decide +kernel
theorem dX0_cheapestGiver_36 : decode cX0_cheapestGiver 36 = .ok (.if_icmp .eq 16, 3) := by decide +kernel
theorem dX0_cheapestGiver_39 : decode cX0_cheapestGiver 39 = .ok (.aload_n 0, 1) := by decide +kernel
theorem dX0_cheapestGiver_40 : decode cX0_cheapestGiver 40 = .ok (.iload 5, 2) := by decide +kernel
theorem dX0_cheapestGiver_42 : decode cX0_cheapestGiver 42 = .ok (.iload 4, 2) := by decide +kernel
theorem dX0_cheapestGiver_44 : decode cX0_cheapestGiver 44 = .ok (.iload_n 2, 1) := by decide +kernel
theorem dX0_cheapestGiver_45 : decode cX0_cheapestGiver 45 = .ok (.iload_n 3, 1) := by decide +kernel
theorem dX0_cheapestGiver_46 : decode cX0_cheapestGiver 46 = .ok (.invokevirtual 128, 3) := by decide +kernel
theorem dX0_cheapestGiver_49 : decode cX0_cheapestGiver 49 = .ok (.ifCond .eq 7, 3) := by decide +kernel
theorem dX0_cheapestGiver_52 : decode cX0_cheapestGiver 52 = .ok (.iload 5, 2) := by decide +kernel
theorem dX0_cheapestGiver_54 : decode cX0_cheapestGiver 54 = .ok (.istore 4, 2) := by decide +kernel
theorem dX0_cheapestGiver_56 : decode cX0_cheapestGiver 56 = .ok (.iinc 5 1, 3) := by decide +kernel
theorem dX0_cheapestGiver_59 : decode cX0_cheapestGiver 59 = .ok (.goto (-53), 3) := by decide +kernel
theorem dX0_cheapestGiver_62 : decode cX0_cheapestGiver 62 = .ok (.iload 4, 2) := by decide +kernel
theorem dX0_cheapestGiver_64 : decode cX0_cheapestGiver 64 = .ok (.ireturn, 1) := by decide +kernel
theorem dX0_isCheaper_0 : decode cX0_isCheaper 0 = .ok (.aload_n 0, 1) := by decide +kernel
theorem dX0_isCheaper_1 : decode cX0_isCheaper 1 = .ok (.getfield 11, 3) := by decide +kernel
theorem dX0_isCheaper_4 : decode cX0_isCheaper 4 = .ok (.iload_n 1, 1) := by decide +kernel
theorem dX0_isCheaper_5 : decode cX0_isCheaper 5 = .ok (.aaload, 1) := by decide +kernel
theorem dX0_isCheaper_6 : decode cX0_isCheaper 6 = .ok (.iload_n 3, 1) := by decide +kernel
theorem dX0_isCheaper_7 : decode cX0_isCheaper 7 = .ok (.iload 4, 2) := by decide +kernel
theorem dX0_isCheaper_9 : decode cX0_isCheaper 9 = .ok (.invokevirtual 87, 3) := by decide +kernel
theorem dX0_isCheaper_12 : decode cX0_isCheaper 12 = .ok (.istore 5, 2) := by decide +kernel
theorem dX0_isCheaper_14 : decode cX0_isCheaper 14 = .ok (.aload_n 0, 1) := by decide +kernel
theorem dX0_isCheaper_15 : decode cX0_isCheaper 15 = .ok (.getfield 11, 3) := by decide +kernel
theorem dX0_isCheaper_18 : decode cX0_isCheaper 18 = .ok (.iload_n 2, 1) := by decide +kernel
theorem dX0_isCheaper_19 : decode cX0_isCheaper 19 = .ok (.aaload, 1) := by decide +kernel
theorem dX0_isCheaper_20 : decode cX0_isCheaper 20 = .ok (.iload_n 3, 1) := by decide +kernel
theorem dX0_isCheaper_21 : decode cX0_isCheaper 21 = .ok (.iload 4, 2) := by decide +kernel
theorem dX0_isCheaper_23 : decode cX0_isCheaper 23 = .ok (.invokevirtual 87, 3) := by decide +kernel
theorem dX0_isCheaper_26 : decode cX0_isCheaper 26 = .ok (.istore 6, 2) := by decide +kernel
theorem dX0_isCheaper_28 : decode cX0_isCheaper 28 = .ok (.iload 5, 2) := by decide +kernel
theorem dX0_isCheaper_30 : decode cX0_isCheaper 30 = .ok (.iload 6, 2) := by decide +kernel
theorem dX0_isCheaper_32 : decode cX0_isCheaper 32 = .ok (.if_icmp .lt 31, 3) := by decide +kernel
theorem dX0_isCheaper_35 : decode cX0_isCheaper 35 = .ok (.iload 5, 2) := by decide +kernel
theorem dX0_isCheaper_37 : decode cX0_isCheaper 37 = .ok (.iload 6, 2) := by decide +kernel
theorem dX0_isCheaper_39 : decode cX0_isCheaper 39 = .ok (.if_icmp .ne 28, 3) := by decide +kernel
theorem dX0_isCheaper_42 : decode cX0_isCheaper 42 = .ok (.aload_n 0, 1) := by decide +kernel
theorem dX0_isCheaper_43 : decode cX0_isCheaper 43 = .ok (.getfield 11, 3) := by decide +kernel
theorem dX0_isCheaper_46 : decode cX0_isCheaper 46 = .ok (.iload_n 1, 1) := by decide +kernel
theorem dX0_isCheaper_47 : decode cX0_isCheaper 47 = .ok (.aaload, 1) := by decide +kernel
theorem dX0_isCheaper_48 : decode cX0_isCheaper 48 = .ok (.getfield 55, 3) := by decide +kernel
theorem dX0_isCheaper_51 : decode cX0_isCheaper 51 = .ok (.aload_n 0, 1) := by decide +kernel
theorem dX0_isCheaper_52 : decode cX0_isCheaper 52 = .ok (.getfield 11, 3) := by decide +kernel
theorem dX0_isCheaper_55 : decode cX0_isCheaper 55 = .ok (.iload_n 2, 1) := by decide +kernel
theorem dX0_isCheaper_56 : decode cX0_isCheaper 56 = .ok (.aaload, 1) := by decide +kernel
theorem dX0_isCheaper_57 : decode cX0_isCheaper 57 = .ok (.getfield 55, 3) := by decide +kernel
theorem dX0_isCheaper_60 : decode cX0_isCheaper 60 = .ok (.if_icmp .ge 7, 3) := by decide +kernel
theorem dX0_isCheaper_63 : decode cX0_isCheaper 63 = .ok (.iconst 1, 1) := by decide +kernel
theorem dX0_isCheaper_64 : decode cX0_isCheaper 64 = .ok (.goto 4, 3) := by decide +kernel
theorem dX0_isCheaper_67 : decode cX0_isCheaper 67 = .ok (.iconst 0, 1) := by decide +kernel
theorem dX0_isCheaper_68 : decode cX0_isCheaper 68 = .ok (.ireturn, 1) := by decide +kernel
theorem dX0_endWeek_0 : decode cX0_endWeek 0 = .ok (.aload_n 0, 1) := by decide +kernel
theorem dX0_endWeek_1 : decode cX0_endWeek 1 = .ok (.dup, 1) := by decide +kernel
theorem dX0_endWeek_2 : decode cX0_endWeek 2 = .ok (.getfield 42, 3) := by decide +kernel
theorem dX0_endWeek_5 : decode cX0_endWeek 5 = .ok (.iconst 1, 1) := by decide +kernel
theorem dX0_endWeek_6 : decode cX0_endWeek 6 = .ok (.iadd, 1) := by decide +kernel
theorem dX0_endWeek_7 : decode cX0_endWeek 7 = .ok (.putfield 42, 3) := by decide +kernel
theorem dX0_endWeek_10 : decode cX0_endWeek 10 = .ok (.iconst 0, 1) := by decide +kernel
theorem dX0_endWeek_11 : decode cX0_endWeek 11 = .ok (.istore_n 1, 1) := by decide +kernel
theorem dX0_endWeek_12 : decode cX0_endWeek 12 = .ok (.iconst 0, 1) := by decide +kernel
theorem dX0_endWeek_13 : decode cX0_endWeek 13 = .ok (.istore_n 2, 1) := by decide +kernel
theorem dX0_endWeek_14 : decode cX0_endWeek 14 = .ok (.iload_n 2, 1) := by decide +kernel
theorem dX0_endWeek_15 : decode cX0_endWeek 15 = .ok (.aload_n 0, 1) := by decide +kernel
theorem dX0_endWeek_16 : decode cX0_endWeek 16 = .ok (.getfield 33, 3) := by decide +kernel
theorem dX0_endWeek_19 : decode cX0_endWeek 19 = .ok (.if_icmp .ge 29, 3) := by decide +kernel
theorem dX0_endWeek_22 : decode cX0_endWeek 22 = .ok (.aload_n 0, 1) := by decide +kernel
theorem dX0_endWeek_23 : decode cX0_endWeek 23 = .ok (.getfield 11, 3) := by decide +kernel
theorem dX0_endWeek_26 : decode cX0_endWeek 26 = .ok (.iload_n 2, 1) := by decide +kernel
theorem dX0_endWeek_27 : decode cX0_endWeek 27 = .ok (.aaload, 1) := by decide +kernel
theorem dX0_endWeek_28 : decode cX0_endWeek 28 = .ok (.getfield 51, 3) := by decide +kernel
theorem dX0_endWeek_31 : decode cX0_endWeek 31 = .ok (.ifCond .eq 11, 3) := by decide +kernel
theorem dX0_endWeek_34 : decode cX0_endWeek 34 = .ok (.iload_n 1, 1) := by decide +kernel
theorem dX0_endWeek_35 : decode cX0_endWeek 35 = .ok (.aload_n 0, 1) := by decide +kernel
theorem dX0_endWeek_36 : decode cX0_endWeek 36 = .ok (.iload_n 2, 1) := by decide +kernel
theorem dX0_endWeek_37 : decode cX0_endWeek 37 = .ok (.invokevirtual 134, 3) := by decide +kernel
theorem dX0_endWeek_40 : decode cX0_endWeek 40 = .ok (.iadd, 1) := by decide +kernel
theorem dX0_endWeek_41 : decode cX0_endWeek 41 = .ok (.istore_n 1, 1) := by decide +kernel
theorem dX0_endWeek_42 : decode cX0_endWeek 42 = .ok (.iinc 2 1, 3) := by decide +kernel
theorem dX0_endWeek_45 : decode cX0_endWeek 45 = .ok (.goto (-31), 3) := by decide +kernel
theorem dX0_endWeek_48 : decode cX0_endWeek 48 = .ok (.iload_n 1, 1) := by decide +kernel
theorem dX0_endWeek_49 : decode cX0_endWeek 49 = .ok (.ireturn, 1) := by decide +kernel
theorem dX0_endWeekOf_0 : decode cX0_endWeekOf 0 = .ok (.aload_n 0, 1) := by decide +kernel
theorem dX0_endWeekOf_1 : decode cX0_endWeekOf 1 = .ok (.getfield 11, 3) := by decide +kernel
theorem dX0_endWeekOf_4 : decode cX0_endWeekOf 4 = .ok (.iload_n 1, 1) := by decide +kernel
theorem dX0_endWeekOf_5 : decode cX0_endWeekOf 5 = .ok (.aaload, 1) := by decide +kernel
theorem dX0_endWeekOf_6 : decode cX0_endWeekOf 6 = .ok (.astore_n 2, 1) := by decide +kernel
theorem dX0_endWeekOf_7 : decode cX0_endWeekOf 7 = .ok (.aload_n 2, 1) := by decide +kernel
theorem dX0_endWeekOf_8 : decode cX0_endWeekOf 8 = .ok (.aload_n 2, 1) := by decide +kernel
theorem dX0_endWeekOf_9 : decode cX0_endWeekOf 9 = .ok (.getfield 100, 3) := by decide +kernel
theorem dX0_endWeekOf_12 : decode cX0_endWeekOf 12 = .ok (.ifCond .eq 7, 3) := by decide +kernel
theorem dX0_endWeekOf_15 : decode cX0_endWeekOf 15 = .ok (.iconst 0, 1) := by decide +kernel
theorem dX0_endWeekOf_16 : decode cX0_endWeekOf 16 = .ok (.goto 9, 3) := by decide +kernel
theorem dX0_endWeekOf_19 : decode cX0_endWeekOf 19 = .ok (.aload_n 2, 1) := by decide +kernel
theorem dX0_endWeekOf_20 : decode cX0_endWeekOf 20 = .ok (.getfield 137, 3) := by decide +kernel
theorem dX0_endWeekOf_23 : decode cX0_endWeekOf 23 = .ok (.iconst 1, 1) := by decide +kernel
theorem dX0_endWeekOf_24 : decode cX0_endWeekOf 24 = .ok (.iadd, 1) := by decide +kernel
theorem dX0_endWeekOf_25 : decode cX0_endWeekOf 25 = .ok (.putfield 137, 3) := by decide +kernel
theorem dX0_endWeekOf_28 : decode cX0_endWeekOf 28 = .ok (.aload_n 2, 1) := by decide +kernel
theorem dX0_endWeekOf_29 : decode cX0_endWeekOf 29 = .ok (.iconst 0, 1) := by decide +kernel
theorem dX0_endWeekOf_30 : decode cX0_endWeekOf 30 = .ok (.putfield 100, 3) := by decide +kernel
theorem dX0_endWeekOf_33 : decode cX0_endWeekOf 33 = .ok (.aload_n 2, 1) := by decide +kernel
theorem dX0_endWeekOf_34 : decode cX0_endWeekOf 34 = .ok (.getfield 137, 3) := by decide +kernel
theorem dX0_endWeekOf_37 : decode cX0_endWeekOf 37 = .ok (.aload_n 0, 1) := by decide +kernel
theorem dX0_endWeekOf_38 : decode cX0_endWeekOf 38 = .ok (.getfield 18, 3) := by decide +kernel
theorem dX0_endWeekOf_41 : decode cX0_endWeekOf 41 = .ok (.iconst 2, 1) := by decide +kernel
theorem dX0_endWeekOf_42 : decode cX0_endWeekOf 42 = .ok (.iaload, 1) := by decide +kernel
theorem dX0_endWeekOf_43 : decode cX0_endWeekOf 43 = .ok (.if_icmp .gt 5, 3) := by decide +kernel
theorem dX0_endWeekOf_46 : decode cX0_endWeekOf 46 = .ok (.iconst 0, 1) := by decide +kernel
theorem dX0_endWeekOf_47 : decode cX0_endWeekOf 47 = .ok (.ireturn, 1) := by decide +kernel
theorem dX0_endWeekOf_48 : decode cX0_endWeekOf 48 = .ok (.aload_n 2, 1) := by decide +kernel
theorem dX0_endWeekOf_49 : decode cX0_endWeekOf 49 = .ok (.getfield 55, 3) := by decide +kernel
theorem dX0_endWeekOf_52 : decode cX0_endWeekOf 52 = .ok (.aload_n 0, 1) := by decide +kernel
theorem dX0_endWeekOf_53 : decode cX0_endWeekOf 53 = .ok (.getfield 18, 3) := by decide +kernel
theorem dX0_endWeekOf_56 : decode cX0_endWeekOf 56 = .ok (.iconst 3, 1) := by decide +kernel
theorem dX0_endWeekOf_57 : decode cX0_endWeekOf 57 = .ok (.iaload, 1) := by decide +kernel
theorem dX0_endWeekOf_58 : decode cX0_endWeekOf 58 = .ok (.invokestatic 140, 3) := by decide +kernel
theorem dX0_endWeekOf_61 : decode cX0_endWeekOf 61 = .ok (.istore_n 3, 1) := by decide +kernel
theorem dX0_endWeekOf_62 : decode cX0_endWeekOf 62 = .ok (.aload_n 2, 1) := by decide +kernel
theorem dX0_endWeekOf_63 : decode cX0_endWeekOf 63 = .ok (.dup, 1) := by decide +kernel
theorem dX0_endWeekOf_64 : decode cX0_endWeekOf 64 = .ok (.getfield 143, 3) := by decide +kernel
theorem dX0_endWeekOf_67 : decode cX0_endWeekOf 67 = .ok (.iload_n 3, 1) := by decide +kernel
theorem dX0_endWeekOf_68 : decode cX0_endWeekOf 68 = .ok (.iadd, 1) := by decide +kernel
theorem dX0_endWeekOf_69 : decode cX0_endWeekOf 69 = .ok (.putfield 143, 3) := by decide +kernel
theorem dX0_endWeekOf_72 : decode cX0_endWeekOf 72 = .ok (.aload_n 0, 1) := by decide +kernel
theorem dX0_endWeekOf_73 : decode cX0_endWeekOf 73 = .ok (.iload_n 1, 1) := by decide +kernel
theorem dX0_endWeekOf_74 : decode cX0_endWeekOf 74 = .ok (.iload_n 3, 1) := by decide +kernel
theorem dX0_endWeekOf_75 : decode cX0_endWeekOf 75 = .ok (.invokevirtual 61, 3) := by decide +kernel
theorem dX0_endWeekOf_78 : decode cX0_endWeekOf 78 = .ok (.aload_n 2, 1) := by decide +kernel
theorem dX0_endWeekOf_79 : decode cX0_endWeekOf 79 = .ok (.aload_n 0, 1) := by decide +kernel
theorem dX0_endWeekOf_80 : decode cX0_endWeekOf 80 = .ok (.getfield 18, 3) := by decide +kernel
theorem dX0_endWeekOf_83 : decode cX0_endWeekOf 83 = .ok (.iconst 4, 1) := by decide +kernel
theorem dX0_endWeekOf_84 : decode cX0_endWeekOf 84 = .ok (.iaload, 1) := by decide +kernel
theorem dX0_endWeekOf_85 : decode cX0_endWeekOf 85 = .ok (.invokevirtual 146, 3) := by decide +kernel
theorem dX0_endWeekOf_88 : decode cX0_endWeekOf 88 = .ok (.iload_n 3, 1) := by decide +kernel
theorem dX0_endWeekOf_89 : decode cX0_endWeekOf 89 = .ok (.ireturn, 1) := by decide +kernel
theorem dX0_hasMotion_0 : decode cX0_hasMotion 0 = .ok (.aload_n 0, 1) := by decide +kernel
theorem dX0_hasMotion_1 : decode cX0_hasMotion 1 = .ok (.getfield 25, 3) := by decide +kernel
theorem dX0_hasMotion_4 : decode cX0_hasMotion 4 = .ok (.iconst (-1), 1) := by decide +kernel
theorem dX0_hasMotion_5 : decode cX0_hasMotion 5 = .ok (.if_icmp .eq 7, 3) := by decide +kernel
theorem dX0_hasMotion_8 : decode cX0_hasMotion 8 = .ok (.iconst 1, 1) := by decide +kernel
theorem dX0_hasMotion_9 : decode cX0_hasMotion 9 = .ok (.goto 4, 3) := by decide +kernel
theorem dX0_hasMotion_12 : decode cX0_hasMotion 12 = .ok (.iconst 0, 1) := by decide +kernel
theorem dX0_hasMotion_13 : decode cX0_hasMotion 13 = .ok (.ireturn, 1) := by decide +kernel
theorem dX0_allowsMotion_0 : decode cX0_allowsMotion 0 = .ok (.aload_n 0, 1) := by decide +kernel
theorem dX0_allowsMotion_1 : decode cX0_allowsMotion 1 = .ok (.getfield 11, 3) := by decide +kernel
theorem dX0_allowsMotion_4 : decode cX0_allowsMotion 4 = .ok (.iload_n 1, 1) := by decide +kernel
theorem dX0_allowsMotion_5 : decode cX0_allowsMotion 5 = .ok (.aaload, 1) := by decide +kernel
theorem dX0_allowsMotion_6 : decode cX0_allowsMotion 6 = .ok (.getfield 51, 3) := by decide +kernel
theorem dX0_allowsMotion_9 : decode cX0_allowsMotion 9 = .ok (.ifCond .eq 28, 3) := by decide +kernel
theorem dX0_allowsMotion_12 : decode cX0_allowsMotion 12 = .ok (.aload_n 0, 1) := by decide +kernel
theorem dX0_allowsMotion_13 : decode cX0_allowsMotion 13 = .ok (.invokevirtual 71, 3) := by decide +kernel
theorem dX0_allowsMotion_16 : decode cX0_allowsMotion 16 = .ok (.ifCond .ne 21, 3) := by decide +kernel
theorem dX0_allowsMotion_19 : decode cX0_allowsMotion 19 = .ok (.aload_n 0, 1) := by decide +kernel
theorem dX0_allowsMotion_20 : decode cX0_allowsMotion 20 = .ok (.getfield 11, 3) := by decide +kernel
theorem dX0_allowsMotion_23 : decode cX0_allowsMotion 23 = .ok (.iload_n 1, 1) := by decide +kernel
theorem dX0_allowsMotion_24 : decode cX0_allowsMotion 24 = .ok (.aaload, 1) := by decide +kernel
theorem dX0_allowsMotion_25 : decode cX0_allowsMotion 25 = .ok (.getfield 55, 3) := by decide +kernel
theorem dX0_allowsMotion_28 : decode cX0_allowsMotion 28 = .ok (.ineg, 1) := by decide +kernel
theorem dX0_allowsMotion_29 : decode cX0_allowsMotion 29 = .ok (.iload_n 2, 1) := by decide +kernel
theorem dX0_allowsMotion_30 : decode cX0_allowsMotion 30 = .ok (.if_icmp .lt 7, 3) := by decide +kernel
theorem dX0_allowsMotion_33 : decode cX0_allowsMotion 33 = .ok (.iconst 1, 1) := by decide +kernel
theorem dX0_allowsMotion_34 : decode cX0_allowsMotion 34 = .ok (.goto 4, 3) := by decide +kernel
theorem dX0_allowsMotion_37 : decode cX0_allowsMotion 37 = .ok (.iconst 0, 1) := by decide +kernel
theorem dX0_allowsMotion_38 : decode cX0_allowsMotion 38 = .ok (.ireturn, 1) := by decide +kernel
theorem dX0_openMotion_0 : decode cX0_openMotion 0 = .ok (.aload_n 0, 1) := by decide +kernel
theorem dX0_openMotion_1 : decode cX0_openMotion 1 = .ok (.iload_n 1, 1) := by decide +kernel
theorem dX0_openMotion_2 : decode cX0_openMotion 2 = .ok (.putfield 25, 3) := by decide +kernel
theorem dX0_openMotion_5 : decode cX0_openMotion 5 = .ok (.aload_n 0, 1) := by decide +kernel
theorem dX0_openMotion_6 : decode cX0_openMotion 6 = .ok (.iload_n 2, 1) := by decide +kernel
theorem dX0_openMotion_7 : decode cX0_openMotion 7 = .ok (.putfield 48, 3) := by decide +kernel
theorem dX0_openMotion_10 : decode cX0_openMotion 10 = .ok (.return_, 1) := by decide +kernel
theorem dX0_dropMotion_0 : decode cX0_dropMotion 0 = .ok (.aload_n 0, 1) := by decide +kernel
theorem dX0_dropMotion_1 : decode cX0_dropMotion 1 = .ok (.iconst (-1), 1) := by decide +kernel
theorem dX0_dropMotion_2 : decode cX0_dropMotion 2 = .ok (.putfield 25, 3) := by decide +kernel
theorem dX0_dropMotion_5 : decode cX0_dropMotion 5 = .ok (.aload_n 0, 1) := by decide +kernel
theorem dX0_dropMotion_6 : decode cX0_dropMotion 6 = .ok (.iconst 0, 1) := by decide +kernel
theorem dX0_dropMotion_7 : decode cX0_dropMotion 7 = .ok (.putfield 48, 3) := by decide +kernel
theorem dX0_dropMotion_10 : decode cX0_dropMotion 10 = .ok (.iconst 0, 1) := by decide +kernel
theorem dX0_dropMotion_11 : decode cX0_dropMotion 11 = .ok (.istore_n 1, 1) := by decide +kernel
theorem dX0_dropMotion_12 : decode cX0_dropMotion 12 = .ok (.iload_n 1, 1) := by decide +kernel
theorem dX0_dropMotion_13 : decode cX0_dropMotion 13 = .ok (.aload_n 0, 1) := by decide +kernel
theorem dX0_dropMotion_14 : decode cX0_dropMotion 14 = .ok (.getfield 33, 3) := by decide +kernel
theorem dX0_dropMotion_17 : decode cX0_dropMotion 17 = .ok (.if_icmp .ge 19, 3) := by decide +kernel
theorem dX0_dropMotion_20 : decode cX0_dropMotion 20 = .ok (.aload_n 0, 1) := by decide +kernel
theorem dX0_dropMotion_21 : decode cX0_dropMotion 21 = .ok (.getfield 11, 3) := by decide +kernel
theorem dX0_dropMotion_24 : decode cX0_dropMotion 24 = .ok (.iload_n 1, 1) := by decide +kernel
theorem dX0_dropMotion_25 : decode cX0_dropMotion 25 = .ok (.aaload, 1) := by decide +kernel
theorem dX0_dropMotion_26 : decode cX0_dropMotion 26 = .ok (.iconst 0, 1) := by decide +kernel
theorem dX0_dropMotion_27 : decode cX0_dropMotion 27 = .ok (.putfield 65, 3) := by decide +kernel
theorem dX0_dropMotion_30 : decode cX0_dropMotion 30 = .ok (.iinc 1 1, 3) := by decide +kernel
theorem dX0_dropMotion_33 : decode cX0_dropMotion 33 = .ok (.goto (-21), 3) := by decide +kernel
theorem dX0_dropMotion_36 : decode cX0_dropMotion 36 = .ok (.return_, 1) := by decide +kernel
theorem dX0_canVote_0 : decode cX0_canVote 0 = .ok (.aload_n 0, 1) := by decide +kernel
theorem dX0_canVote_1 : decode cX0_canVote 1 = .ok (.invokevirtual 71, 3) := by decide +kernel
theorem dX0_canVote_4 : decode cX0_canVote 4 = .ok (.ifCond .eq 39, 3) := by decide +kernel
theorem dX0_canVote_7 : decode cX0_canVote 7 = .ok (.iload_n 1, 1) := by decide +kernel
theorem dX0_canVote_8 : decode cX0_canVote 8 = .ok (.aload_n 0, 1) := by decide +kernel
theorem dX0_canVote_9 : decode cX0_canVote 9 = .ok (.getfield 25, 3) := by decide +kernel
theorem dX0_canVote_12 : decode cX0_canVote 12 = .ok (.if_icmp .eq 31, 3) := by decide +kernel
theorem dX0_canVote_15 : decode cX0_canVote 15 = .ok (.aload_n 0, 1) := by decide +kernel
theorem dX0_canVote_16 : decode cX0_canVote 16 = .ok (.getfield 11, 3) := by decide +kernel
theorem dX0_canVote_19 : decode cX0_canVote 19 = .ok (.iload_n 1, 1) := by decide +kernel
theorem dX0_canVote_20 : decode cX0_canVote 20 = .ok (.aaload, 1) := by decide +kernel
theorem dX0_canVote_21 : decode cX0_canVote 21 = .ok (.getfield 51, 3) := by decide +kernel
theorem dX0_canVote_24 : decode cX0_canVote 24 = .ok (.ifCond .eq 19, 3) := by decide +kernel
theorem dX0_canVote_27 : decode cX0_canVote 27 = .ok (.aload_n 0, 1) := by decide +kernel
theorem dX0_canVote_28 : decode cX0_canVote 28 = .ok (.getfield 11, 3) := by decide +kernel
theorem dX0_canVote_31 : decode cX0_canVote 31 = .ok (.iload_n 1, 1) := by decide +kernel
theorem dX0_canVote_32 : decode cX0_canVote 32 = .ok (.aaload, 1) := by decide +kernel
theorem dX0_canVote_33 : decode cX0_canVote 33 = .ok (.getfield 65, 3) := by decide +kernel
theorem dX0_canVote_36 : decode cX0_canVote 36 = .ok (.ifCond .ne 7, 3) := by decide +kernel
theorem dX0_canVote_39 : decode cX0_canVote 39 = .ok (.iconst 1, 1) := by decide +kernel
theorem dX0_canVote_40 : decode cX0_canVote 40 = .ok (.goto 4, 3) := by decide +kernel
theorem dX0_canVote_43 : decode cX0_canVote 43 = .ok (.iconst 0, 1) := by decide +kernel
theorem dX0_canVote_44 : decode cX0_canVote 44 = .ok (.ireturn, 1) := by decide +kernel
theorem dX0_countBallots_0 : decode cX0_countBallots 0 = .ok (.iconst 0, 1) := by decide +kernel
theorem dX0_countBallots_1 : decode cX0_countBallots 1 = .ok (.istore_n 2, 1) := by decide +kernel
theorem dX0_countBallots_2 : decode cX0_countBallots 2 = .ok (.iconst 0, 1) := by decide +kernel
theorem dX0_countBallots_3 : decode cX0_countBallots 3 = .ok (.istore_n 3, 1) := by decide +kernel
theorem dX0_countBallots_4 : decode cX0_countBallots 4 = .ok (.iload_n 3, 1) := by decide +kernel
theorem dX0_countBallots_5 : decode cX0_countBallots 5 = .ok (.aload_n 0, 1) := by decide +kernel
theorem dX0_countBallots_6 : decode cX0_countBallots 6 = .ok (.getfield 33, 3) := by decide +kernel
theorem dX0_countBallots_9 : decode cX0_countBallots 9 = .ok (.if_icmp .ge 25, 3) := by decide +kernel
theorem dX0_countBallots_12 : decode cX0_countBallots 12 = .ok (.aload_n 0, 1) := by decide +kernel
theorem dX0_countBallots_13 : decode cX0_countBallots 13 = .ok (.getfield 11, 3) := by decide +kernel
theorem dX0_countBallots_16 : decode cX0_countBallots 16 = .ok (.iload_n 3, 1) := by decide +kernel
theorem dX0_countBallots_17 : decode cX0_countBallots 17 = .ok (.aaload, 1) := by decide +kernel
theorem dX0_countBallots_18 : decode cX0_countBallots 18 = .ok (.getfield 65, 3) := by decide +kernel
theorem dX0_countBallots_21 : decode cX0_countBallots 21 = .ok (.iload_n 1, 1) := by decide +kernel
theorem dX0_countBallots_22 : decode cX0_countBallots 22 = .ok (.if_icmp .ne 6, 3) := by decide +kernel
theorem dX0_countBallots_25 : decode cX0_countBallots 25 = .ok (.iinc 2 1, 3) := by decide +kernel
theorem dX0_countBallots_28 : decode cX0_countBallots 28 = .ok (.iinc 3 1, 3) := by decide +kernel
theorem dX0_countBallots_31 : decode cX0_countBallots 31 = .ok (.goto (-27), 3) := by decide +kernel
theorem dX0_countBallots_34 : decode cX0_countBallots 34 = .ok (.iload_n 2, 1) := by decide +kernel
theorem dX0_countBallots_35 : decode cX0_countBallots 35 = .ok (.ireturn, 1) := by decide +kernel
theorem dX0_countVoters_0 : decode cX0_countVoters 0 = .ok (.aload_n 0, 1) := by decide +kernel
theorem dX0_countVoters_1 : decode cX0_countVoters 1 = .ok (.invokevirtual 150, 3) := by decide +kernel
theorem dX0_countVoters_4 : decode cX0_countVoters 4 = .ok (.iconst 1, 1) := by decide +kernel
theorem dX0_countVoters_5 : decode cX0_countVoters 5 = .ok (.isub, 1) := by decide +kernel
theorem dX0_countVoters_6 : decode cX0_countVoters 6 = .ok (.ireturn, 1) := by decide +kernel
theorem dX0_settleMotion_0 : decode cX0_settleMotion 0 = .ok (.aload_n 0, 1) := by decide +kernel
theorem dX0_settleMotion_1 : decode cX0_settleMotion 1 = .ok (.invokevirtual 153, 3) := by decide +kernel
theorem dX0_settleMotion_4 : decode cX0_settleMotion 4 = .ok (.istore_n 1, 1) := by decide +kernel
theorem dX0_settleMotion_5 : decode cX0_settleMotion 5 = .ok (.aload_n 0, 1) := by decide +kernel
theorem dX0_settleMotion_6 : decode cX0_settleMotion 6 = .ok (.iconst 1, 1) := by decide +kernel
theorem dX0_settleMotion_7 : decode cX0_settleMotion 7 = .ok (.invokevirtual 156, 3) := by decide +kernel
theorem dX0_settleMotion_10 : decode cX0_settleMotion 10 = .ok (.iconst 2, 1) := by decide +kernel
theorem dX0_settleMotion_11 : decode cX0_settleMotion 11 = .ok (.imul, 1) := by decide +kernel
theorem dX0_settleMotion_12 : decode cX0_settleMotion 12 = .ok (.iload_n 1, 1) := by decide +kernel
theorem dX0_settleMotion_13 : decode cX0_settleMotion 13 = .ok (.if_icmp .le 9, 3) := by decide +kernel
theorem dX0_settleMotion_16 : decode cX0_settleMotion 16 = .ok (.aload_n 0, 1) := by decide +kernel
theorem dX0_settleMotion_17 : decode cX0_settleMotion 17 = .ok (.invokevirtual 159, 3) := by decide +kernel
theorem dX0_settleMotion_20 : decode cX0_settleMotion 20 = .ok (.iconst 1, 1) := by decide +kernel
theorem dX0_settleMotion_21 : decode cX0_settleMotion 21 = .ok (.ireturn, 1) := by decide +kernel
theorem dX0_settleMotion_22 : decode cX0_settleMotion 22 = .ok (.iload_n 1, 1) := by decide +kernel
theorem dX0_settleMotion_23 : decode cX0_settleMotion 23 = .ok (.ifCond .le 20, 3) := by decide +kernel
theorem dX0_settleMotion_26 : decode cX0_settleMotion 26 = .ok (.aload_n 0, 1) := by decide +kernel
theorem dX0_settleMotion_27 : decode cX0_settleMotion 27 = .ok (.iconst 2, 1) := by decide +kernel
theorem dX0_settleMotion_28 : decode cX0_settleMotion 28 = .ok (.invokevirtual 156, 3) := by decide +kernel
theorem dX0_settleMotion_31 : decode cX0_settleMotion 31 = .ok (.iconst 2, 1) := by decide +kernel
theorem dX0_settleMotion_32 : decode cX0_settleMotion 32 = .ok (.imul, 1) := by decide +kernel
theorem dX0_settleMotion_33 : decode cX0_settleMotion 33 = .ok (.iload_n 1, 1) := by decide +kernel
theorem dX0_settleMotion_34 : decode cX0_settleMotion 34 = .ok (.if_icmp .lt 9, 3) := by decide +kernel
theorem dX0_settleMotion_37 : decode cX0_settleMotion 37 = .ok (.aload_n 0, 1) := by decide +kernel
theorem dX0_settleMotion_38 : decode cX0_settleMotion 38 = .ok (.invokevirtual 68, 3) := by decide +kernel
theorem dX0_settleMotion_41 : decode cX0_settleMotion 41 = .ok (.iconst 2, 1) := by decide +kernel
theorem dX0_settleMotion_42 : decode cX0_settleMotion 42 = .ok (.ireturn, 1) := by decide +kernel
theorem dX0_settleMotion_43 : decode cX0_settleMotion 43 = .ok (.iconst 0, 1) := by decide +kernel
theorem dX0_settleMotion_44 : decode cX0_settleMotion 44 = .ok (.ireturn, 1) := by decide +kernel
theorem dX0_forgive_0 : decode cX0_forgive 0 = .ok (.aload_n 0, 1) := by decide +kernel
theorem dX0_forgive_1 : decode cX0_forgive 1 = .ok (.aload_n 0, 1) := by decide +kernel
theorem dX0_forgive_2 : decode cX0_forgive 2 = .ok (.getfield 25, 3) := by decide +kernel
theorem dX0_forgive_5 : decode cX0_forgive 5 = .ok (.invokevirtual 79, 3) := by decide +kernel
theorem dX0_forgive_8 : decode cX0_forgive 8 = .ok (.ifCond .eq 58, 3) := by decide +kernel
theorem dX0_forgive_11 : decode cX0_forgive 11 = .ok (.aload_n 0, 1) := by decide +kernel
theorem dX0_forgive_12 : decode cX0_forgive 12 = .ok (.getfield 11, 3) := by decide +kernel
theorem dX0_forgive_15 : decode cX0_forgive 15 = .ok (.aload_n 0, 1) := by decide +kernel
theorem dX0_forgive_16 : decode cX0_forgive 16 = .ok (.getfield 25, 3) := by decide +kernel
theorem dX0_forgive_19 : decode cX0_forgive 19 = .ok (.aaload, 1) := by decide +kernel
theorem dX0_forgive_20 : decode cX0_forgive 20 = .ok (.dup, 1) := by decide +kernel
theorem dX0_forgive_21 : decode cX0_forgive 21 = .ok (.getfield 55, 3) := by decide +kernel
theorem dX0_forgive_24 : decode cX0_forgive 24 = .ok (.aload_n 0, 1) := by decide +kernel
theorem dX0_forgive_25 : decode cX0_forgive 25 = .ok (.getfield 48, 3) := by decide +kernel
theorem dX0_forgive_28 : decode cX0_forgive 28 = .ok (.iadd, 1) := by decide +kernel
theorem dX0_forgive_29 : decode cX0_forgive 29 = .ok (.putfield 55, 3) := by decide +kernel
theorem dX0_forgive_32 : decode cX0_forgive 32 = .ok (.aload_n 0, 1) := by decide +kernel
theorem dX0_forgive_33 : decode cX0_forgive 33 = .ok (.getfield 11, 3) := by decide +kernel
theorem dX0_forgive_36 : decode cX0_forgive 36 = .ok (.aload_n 0, 1) := by decide +kernel
theorem dX0_forgive_37 : decode cX0_forgive 37 = .ok (.getfield 25, 3) := by decide +kernel
theorem dX0_forgive_40 : decode cX0_forgive 40 = .ok (.aaload, 1) := by decide +kernel
theorem dX0_forgive_41 : decode cX0_forgive 41 = .ok (.dup, 1) := by decide +kernel
theorem dX0_forgive_42 : decode cX0_forgive 42 = .ok (.getfield 162, 3) := by decide +kernel
theorem dX0_forgive_45 : decode cX0_forgive 45 = .ok (.aload_n 0, 1) := by decide +kernel
theorem dX0_forgive_46 : decode cX0_forgive 46 = .ok (.getfield 48, 3) := by decide +kernel
theorem dX0_forgive_49 : decode cX0_forgive 49 = .ok (.iadd, 1) := by decide +kernel
theorem dX0_forgive_50 : decode cX0_forgive 50 = .ok (.putfield 162, 3) := by decide +kernel
theorem dX0_forgive_53 : decode cX0_forgive 53 = .ok (.aload_n 0, 1) := by decide +kernel
theorem dX0_forgive_54 : decode cX0_forgive 54 = .ok (.dup, 1) := by decide +kernel
theorem dX0_forgive_55 : decode cX0_forgive 55 = .ok (.getfield 39, 3) := by decide +kernel
theorem dX0_forgive_58 : decode cX0_forgive 58 = .ok (.aload_n 0, 1) := by decide +kernel
theorem dX0_forgive_59 : decode cX0_forgive 59 = .ok (.getfield 48, 3) := by decide +kernel
theorem dX0_forgive_62 : decode cX0_forgive 62 = .ok (.iadd, 1) := by decide +kernel
theorem dX0_forgive_63 : decode cX0_forgive 63 = .ok (.putfield 39, 3) := by decide +kernel
theorem dX0_forgive_66 : decode cX0_forgive 66 = .ok (.aload_n 0, 1) := by decide +kernel
theorem dX0_forgive_67 : decode cX0_forgive 67 = .ok (.invokevirtual 68, 3) := by decide +kernel
theorem dX0_forgive_70 : decode cX0_forgive 70 = .ok (.return_, 1) := by decide +kernel
theorem dX0_missingVotes_0 : decode cX0_missingVotes 0 = .ok (.aload_n 0, 1) := by decide +kernel
theorem dX0_missingVotes_1 : decode cX0_missingVotes 1 = .ok (.invokevirtual 71, 3) := by decide +kernel
theorem dX0_missingVotes_4 : decode cX0_missingVotes 4 = .ok (.ifCond .eq 20, 3) := by decide +kernel
theorem dX0_missingVotes_7 : decode cX0_missingVotes 7 = .ok (.aload_n 0, 1) := by decide +kernel
theorem dX0_missingVotes_8 : decode cX0_missingVotes 8 = .ok (.invokevirtual 153, 3) := by decide +kernel
theorem dX0_missingVotes_11 : decode cX0_missingVotes 11 = .ok (.iconst 2, 1) := by decide +kernel
theorem dX0_missingVotes_12 : decode cX0_missingVotes 12 = .ok (.idiv, 1) := by decide +kernel
theorem dX0_missingVotes_13 : decode cX0_missingVotes 13 = .ok (.iconst 1, 1) := by decide +kernel
theorem dX0_missingVotes_14 : decode cX0_missingVotes 14 = .ok (.iadd, 1) := by decide +kernel
theorem dX0_missingVotes_15 : decode cX0_missingVotes 15 = .ok (.aload_n 0, 1) := by decide +kernel
theorem dX0_missingVotes_16 : decode cX0_missingVotes 16 = .ok (.iconst 1, 1) := by decide +kernel
theorem dX0_missingVotes_17 : decode cX0_missingVotes 17 = .ok (.invokevirtual 156, 3) := by decide +kernel
theorem dX0_missingVotes_20 : decode cX0_missingVotes 20 = .ok (.isub, 1) := by decide +kernel
theorem dX0_missingVotes_21 : decode cX0_missingVotes 21 = .ok (.goto 4, 3) := by decide +kernel
theorem dX0_missingVotes_24 : decode cX0_missingVotes 24 = .ok (.iconst (-1), 1) := by decide +kernel
theorem dX0_missingVotes_25 : decode cX0_missingVotes 25 = .ok (.ireturn, 1) := by decide +kernel
theorem dX0_countThere_0 : decode cX0_countThere 0 = .ok (.iconst 0, 1) := by decide +kernel
theorem dX0_countThere_1 : decode cX0_countThere 1 = .ok (.istore_n 1, 1) := by decide +kernel
theorem dX0_countThere_2 : decode cX0_countThere 2 = .ok (.iconst 0, 1) := by decide +kernel
theorem dX0_countThere_3 : decode cX0_countThere 3 = .ok (.istore_n 2, 1) := by decide +kernel
theorem dX0_countThere_4 : decode cX0_countThere 4 = .ok (.iload_n 2, 1) := by decide +kernel
theorem dX0_countThere_5 : decode cX0_countThere 5 = .ok (.aload_n 0, 1) := by decide +kernel
theorem dX0_countThere_6 : decode cX0_countThere 6 = .ok (.getfield 33, 3) := by decide +kernel
theorem dX0_countThere_9 : decode cX0_countThere 9 = .ok (.if_icmp .ge 24, 3) := by decide +kernel
theorem dX0_countThere_12 : decode cX0_countThere 12 = .ok (.aload_n 0, 1) := by decide +kernel
theorem dX0_countThere_13 : decode cX0_countThere 13 = .ok (.getfield 11, 3) := by decide +kernel
theorem dX0_countThere_16 : decode cX0_countThere 16 = .ok (.iload_n 2, 1) := by decide +kernel
theorem dX0_countThere_17 : decode cX0_countThere 17 = .ok (.aaload, 1) := by decide +kernel
theorem dX0_countThere_18 : decode cX0_countThere 18 = .ok (.getfield 51, 3) := by decide +kernel
theorem dX0_countThere_21 : decode cX0_countThere 21 = .ok (.ifCond .eq 6, 3) := by decide +kernel
theorem dX0_countThere_24 : decode cX0_countThere 24 = .ok (.iinc 1 1, 3) := by decide +kernel
theorem dX0_countThere_27 : decode cX0_countThere 27 = .ok (.iinc 2 1, 3) := by decide +kernel
theorem dX0_countThere_30 : decode cX0_countThere 30 = .ok (.goto (-26), 3) := by decide +kernel
theorem dX0_countThere_33 : decode cX0_countThere 33 = .ok (.iload_n 1, 1) := by decide +kernel
theorem dX0_countThere_34 : decode cX0_countThere 34 = .ok (.ireturn, 1) := by decide +kernel
theorem dX0_sumOfCredits_0 : decode cX0_sumOfCredits 0 = .ok (.iconst 0, 1) := by decide +kernel
theorem dX0_sumOfCredits_1 : decode cX0_sumOfCredits 1 = .ok (.istore_n 1, 1) := by decide +kernel
theorem dX0_sumOfCredits_2 : decode cX0_sumOfCredits 2 = .ok (.iconst 0, 1) := by decide +kernel
theorem dX0_sumOfCredits_3 : decode cX0_sumOfCredits 3 = .ok (.istore_n 2, 1) := by decide +kernel
theorem dX0_sumOfCredits_4 : decode cX0_sumOfCredits 4 = .ok (.iload_n 2, 1) := by decide +kernel
theorem dX0_sumOfCredits_5 : decode cX0_sumOfCredits 5 = .ok (.aload_n 0, 1) := by decide +kernel
theorem dX0_sumOfCredits_6 : decode cX0_sumOfCredits 6 = .ok (.getfield 33, 3) := by decide +kernel
theorem dX0_sumOfCredits_9 : decode cX0_sumOfCredits 9 = .ok (.if_icmp .ge 25, 3) := by decide +kernel
theorem dX0_sumOfCredits_12 : decode cX0_sumOfCredits 12 = .ok (.iload_n 1, 1) := by decide +kernel
theorem dX0_sumOfCredits_13 : decode cX0_sumOfCredits 13 = .ok (.aload_n 0, 1) := by decide +kernel
theorem dX0_sumOfCredits_14 : decode cX0_sumOfCredits 14 = .ok (.getfield 11, 3) := by decide +kernel
theorem dX0_sumOfCredits_17 : decode cX0_sumOfCredits 17 = .ok (.iload_n 2, 1) := by decide +kernel
theorem dX0_sumOfCredits_18 : decode cX0_sumOfCredits 18 = .ok (.aaload, 1) := by decide +kernel
theorem dX0_sumOfCredits_19 : decode cX0_sumOfCredits 19 = .ok (.getfield 55, 3) := by decide +kernel
theorem dX0_sumOfCredits_22 : decode cX0_sumOfCredits 22 = .ok (.iconst 0, 1) := by decide +kernel
theorem dX0_sumOfCredits_23 : decode cX0_sumOfCredits 23 = .ok (.invokestatic 163, 3) := by decide +kernel
theorem dX0_sumOfCredits_26 : decode cX0_sumOfCredits 26 = .ok (.iadd, 1) := by decide +kernel
theorem dX0_sumOfCredits_27 : decode cX0_sumOfCredits 27 = .ok (.istore_n 1, 1) := by decide +kernel
theorem dX0_sumOfCredits_28 : decode cX0_sumOfCredits 28 = .ok (.iinc 2 1, 3) := by decide +kernel
theorem dX0_sumOfCredits_31 : decode cX0_sumOfCredits 31 = .ok (.goto (-27), 3) := by decide +kernel
theorem dX0_sumOfCredits_34 : decode cX0_sumOfCredits 34 = .ok (.iload_n 1, 1) := by decide +kernel
theorem dX0_sumOfCredits_35 : decode cX0_sumOfCredits 35 = .ok (.ireturn, 1) := by decide +kernel
theorem dX0_sumOfDebts_0 : decode cX0_sumOfDebts 0 = .ok (.iconst 0, 1) := by decide +kernel
theorem dX0_sumOfDebts_1 : decode cX0_sumOfDebts 1 = .ok (.istore_n 1, 1) := by decide +kernel
theorem dX0_sumOfDebts_2 : decode cX0_sumOfDebts 2 = .ok (.iconst 0, 1) := by decide +kernel
theorem dX0_sumOfDebts_3 : decode cX0_sumOfDebts 3 = .ok (.istore_n 2, 1) := by decide +kernel
theorem dX0_sumOfDebts_4 : decode cX0_sumOfDebts 4 = .ok (.iload_n 2, 1) := by decide +kernel
theorem dX0_sumOfDebts_5 : decode cX0_sumOfDebts 5 = .ok (.aload_n 0, 1) := by decide +kernel
theorem dX0_sumOfDebts_6 : decode cX0_sumOfDebts 6 = .ok (.getfield 33, 3) := by decide +kernel
theorem dX0_sumOfDebts_9 : decode cX0_sumOfDebts 9 = .ok (.if_icmp .ge 25, 3) := by decide +kernel
theorem dX0_sumOfDebts_12 : decode cX0_sumOfDebts 12 = .ok (.iload_n 1, 1) := by decide +kernel
theorem dX0_sumOfDebts_13 : decode cX0_sumOfDebts 13 = .ok (.aload_n 0, 1) := by decide +kernel
theorem dX0_sumOfDebts_14 : decode cX0_sumOfDebts 14 = .ok (.getfield 11, 3) := by decide +kernel
theorem dX0_sumOfDebts_17 : decode cX0_sumOfDebts 17 = .ok (.iload_n 2, 1) := by decide +kernel
theorem dX0_sumOfDebts_18 : decode cX0_sumOfDebts 18 = .ok (.aaload, 1) := by decide +kernel
theorem dX0_sumOfDebts_19 : decode cX0_sumOfDebts 19 = .ok (.getfield 55, 3) := by decide +kernel
theorem dX0_sumOfDebts_22 : decode cX0_sumOfDebts 22 = .ok (.iconst 0, 1) := by decide +kernel
theorem dX0_sumOfDebts_23 : decode cX0_sumOfDebts 23 = .ok (.invokestatic 115, 3) := by decide +kernel
theorem dX0_sumOfDebts_26 : decode cX0_sumOfDebts 26 = .ok (.iadd, 1) := by decide +kernel
theorem dX0_sumOfDebts_27 : decode cX0_sumOfDebts 27 = .ok (.istore_n 1, 1) := by decide +kernel
theorem dX0_sumOfDebts_28 : decode cX0_sumOfDebts 28 = .ok (.iinc 2 1, 3) := by decide +kernel
theorem dX0_sumOfDebts_31 : decode cX0_sumOfDebts 31 = .ok (.goto (-27), 3) := by decide +kernel
theorem dX0_sumOfDebts_34 : decode cX0_sumOfDebts 34 = .ok (.iload_n 1, 1) := by decide +kernel
theorem dX0_sumOfDebts_35 : decode cX0_sumOfDebts 35 = .ok (.ireturn, 1) := by decide +kernel
theorem dX0_sumOfLoans_0 : decode cX0_sumOfLoans 0 = .ok (.iconst 0, 1) := by decide +kernel
theorem dX0_sumOfLoans_1 : decode cX0_sumOfLoans 1 = .ok (.istore_n 1, 1) := by decide +kernel
theorem dX0_sumOfLoans_2 : decode cX0_sumOfLoans 2 = .ok (.iconst 0, 1) := by decide +kernel
theorem dX0_sumOfLoans_3 : decode cX0_sumOfLoans 3 = .ok (.istore_n 2, 1) := by decide +kernel
theorem dX0_sumOfLoans_4 : decode cX0_sumOfLoans 4 = .ok (.iload_n 2, 1) := by decide +kernel
theorem dX0_sumOfLoans_5 : decode cX0_sumOfLoans 5 = .ok (.aload_n 0, 1) := by decide +kernel
theorem dX0_sumOfLoans_6 : decode cX0_sumOfLoans 6 = .ok (.getfield 33, 3) := by decide +kernel
theorem dX0_sumOfLoans_9 : decode cX0_sumOfLoans 9 = .ok (.if_icmp .ge 21, 3) := by decide +kernel
theorem dX0_sumOfLoans_12 : decode cX0_sumOfLoans 12 = .ok (.iload_n 1, 1) := by decide +kernel
theorem dX0_sumOfLoans_13 : decode cX0_sumOfLoans 13 = .ok (.aload_n 0, 1) := by decide +kernel
theorem dX0_sumOfLoans_14 : decode cX0_sumOfLoans 14 = .ok (.getfield 11, 3) := by decide +kernel
theorem dX0_sumOfLoans_17 : decode cX0_sumOfLoans 17 = .ok (.iload_n 2, 1) := by decide +kernel
theorem dX0_sumOfLoans_18 : decode cX0_sumOfLoans 18 = .ok (.aaload, 1) := by decide +kernel
theorem dX0_sumOfLoans_19 : decode cX0_sumOfLoans 19 = .ok (.getfield 58, 3) := by decide +kernel
theorem dX0_sumOfLoans_22 : decode cX0_sumOfLoans 22 = .ok (.iadd, 1) := by decide +kernel
theorem dX0_sumOfLoans_23 : decode cX0_sumOfLoans 23 = .ok (.istore_n 1, 1) := by decide +kernel
theorem dX0_sumOfLoans_24 : decode cX0_sumOfLoans 24 = .ok (.iinc 2 1, 3) := by decide +kernel
theorem dX0_sumOfLoans_27 : decode cX0_sumOfLoans 27 = .ok (.goto (-23), 3) := by decide +kernel
theorem dX0_sumOfLoans_30 : decode cX0_sumOfLoans 30 = .ok (.iload_n 1, 1) := by decide +kernel
theorem dX0_sumOfLoans_31 : decode cX0_sumOfLoans 31 = .ok (.ireturn, 1) := by decide +kernel
theorem dX0_memberProperty_0 : decode cX0_memberProperty 0 = .ok (.aload_n 0, 1) := by decide +kernel
theorem dX0_memberProperty_1 : decode cX0_memberProperty 1 = .ok (.getfield 11, 3) := by decide +kernel
theorem dX0_memberProperty_4 : decode cX0_memberProperty 4 = .ok (.iload_n 1, 1) := by decide +kernel
theorem dX0_memberProperty_5 : decode cX0_memberProperty 5 = .ok (.aaload, 1) := by decide +kernel
theorem dX0_memberProperty_6 : decode cX0_memberProperty 6 = .ok (.astore_n 3, 1) := by decide +kernel
theorem dX0_memberProperty_7 : decode cX0_memberProperty 7 = .ok (.iload_n 2, 1) := by decide +kernel
theorem dX0_memberProperty_8 : decode cX0_memberProperty 8 = .ok (.tableswitch 131 0 10 #[60, 73, 78, 83, 88, 101, 106, 111, 116, 121, 126], 60) := by decide +kernel
theorem dX0_memberProperty_68 : decode cX0_memberProperty 68 = .ok (.aload_n 3, 1) := by decide +kernel
theorem dX0_memberProperty_69 : decode cX0_memberProperty 69 = .ok (.getfield 51, 3) := by decide +kernel
theorem dX0_memberProperty_72 : decode cX0_memberProperty 72 = .ok (.ifCond .eq 7, 3) := by decide +kernel
theorem dX0_memberProperty_75 : decode cX0_memberProperty 75 = .ok (.iconst 1, 1) := by decide +kernel
theorem dX0_memberProperty_76 : decode cX0_memberProperty 76 = .ok (.goto 4, 3) := by decide +kernel
theorem dX0_memberProperty_79 : decode cX0_memberProperty 79 = .ok (.iconst 0, 1) := by decide +kernel
theorem dX0_memberProperty_80 : decode cX0_memberProperty 80 = .ok (.ireturn, 1) := by decide +kernel
theorem dX0_memberProperty_81 : decode cX0_memberProperty 81 = .ok (.aload_n 3, 1) := by decide +kernel
