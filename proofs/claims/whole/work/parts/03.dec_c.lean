theorem dX6_init_0 : decode cX6_init 0 = .ok (.aload_n 0, 1) := by decide +kernel
theorem dX6_init_1 : decode cX6_init 1 = .ok (.invokespecial 1, 3) := by decide +kernel
theorem dX6_init_4 : decode cX6_init 4 = .ok (.aload_n 0, 1) := by decide +kernel
theorem dX6_init_5 : decode cX6_init 5 = .ok (.new 7, 3) := by decide +kernel
theorem dX6_init_8 : decode cX6_init 8 = .ok (.dup, 1) := by decide +kernel
theorem dX6_init_9 : decode cX6_init 9 = .ok (.invokespecial 9, 3) := by decide +kernel
theorem dX6_init_12 : decode cX6_init 12 = .ok (.putfield 10, 3) := by decide +kernel
theorem dX6_init_15 : decode cX6_init 15 = .ok (.aload_n 0, 1) := by decide +kernel
theorem dX6_init_16 : decode cX6_init 16 = .ok (.new 7, 3) := by decide +kernel
theorem dX6_init_19 : decode cX6_init 19 = .ok (.dup, 1) := by decide +kernel
theorem dX6_init_20 : decode cX6_init 20 = .ok (.invokespecial 9, 3) := by decide +kernel
theorem dX6_init_23 : decode cX6_init 23 = .ok (.putfield 16, 3) := by decide +kernel
theorem dX6_init_26 : decode cX6_init 26 = .ok (.aload_n 0, 1) := by decide +kernel
theorem dX6_init_27 : decode cX6_init 27 = .ok (.new 7, 3) := by decide +kernel
theorem dX6_init_30 : decode cX6_init 30 = .ok (.dup, 1) := by decide +kernel
theorem dX6_init_31 : decode cX6_init 31 = .ok (.invokespecial 9, 3) := by decide +kernel
theorem dX6_init_34 : decode cX6_init 34 = .ok (.putfield 19, 3) := by decide +kernel
theorem dX6_init_37 : decode cX6_init 37 = .ok (.aload_n 0, 1) := by decide +kernel
theorem dX6_init_38 : decode cX6_init 38 = .ok (.new 22, 3) := by decide +kernel
theorem dX6_init_41 : decode cX6_init 41 = .ok (.dup, 1) := by decide +kernel
theorem dX6_init_42 : decode cX6_init 42 = .ok (.invokespecial 24, 3) := by decide +kernel
theorem dX6_init_45 : decode cX6_init 45 = .ok (.putfield 25, 3) := by decide +kernel
theorem dX6_init_48 : decode cX6_init 48 = .ok (.aload_n 0, 1) := by decide +kernel
theorem dX6_init_49 : decode cX6_init 49 = .ok (.new 29, 3) := by decide +kernel
theorem dX6_init_52 : decode cX6_init 52 = .ok (.dup, 1) := by decide +kernel
theorem dX6_init_53 : decode cX6_init 53 = .ok (.aload_n 0, 1) := by decide +kernel
theorem dX6_init_54 : decode cX6_init 54 = .ok (.getfield 10, 3) := by decide +kernel
theorem dX6_init_57 : decode cX6_init 57 = .ok (.aload_n 0, 1) := by decide +kernel
theorem dX6_init_58 : decode cX6_init 58 = .ok (.getfield 25, 3) := by decide +kernel
theorem dX6_init_61 : decode cX6_init 61 = .ok (.invokespecial 31, 3) := by decide +kernel
theorem dX6_init_64 : decode cX6_init 64 = .ok (.putfield 34, 3) := by decide +kernel
theorem dX6_init_67 : decode cX6_init 67 = .ok (.aload_n 0, 1) := by decide +kernel
theorem dX6_init_68 : decode cX6_init 68 = .ok (.new 38, 3) := by decide +kernel
theorem dX6_init_71 : decode cX6_init 71 = .ok (.dup, 1) := by decide +kernel
theorem dX6_init_72 : decode cX6_init 72 = .ok (.invokespecial 40, 3) := by decide +kernel
theorem dX6_init_75 : decode cX6_init 75 = .ok (.putfield 41, 3) := by decide +kernel
theorem dX6_init_78 : decode cX6_init 78 = .ok (.aload_n 0, 1) := by decide +kernel
theorem dX6_init_79 : decode cX6_init 79 = .ok (.bipush 13, 2) := by decide +kernel
theorem dX6_init_81 : decode cX6_init 81 = .ok (.newarray .int, 2) := by decide +kernel
theorem dX6_init_83 : decode cX6_init 83 = .ok (.putfield 45, 3) := by decide +kernel
theorem dX6_init_86 : decode cX6_init 86 = .ok (.aload_n 0, 1) := by decide +kernel
theorem dX6_init_87 : decode cX6_init 87 = .ok (.bipush 13, 2) := by decide +kernel
theorem dX6_init_89 : decode cX6_init 89 = .ok (.newarray .int, 2) := by decide +kernel
theorem dX6_init_91 : decode cX6_init 91 = .ok (.putfield 49, 3) := by decide +kernel
theorem dX6_init_94 : decode cX6_init 94 = .ok (.aload_n 0, 1) := by decide +kernel
theorem dX6_init_95 : decode cX6_init 95 = .ok (.iconst 0, 1) := by decide +kernel
theorem dX6_init_96 : decode cX6_init 96 = .ok (.putfield 52, 3) := by decide +kernel
theorem dX6_init_99 : decode cX6_init 99 = .ok (.return_, 1) := by decide +kernel
theorem dX6_wick_0 : decode cX6_wick 0 = .ok (.iload_n 1, 1) := by decide +kernel
theorem dX6_wick_1 : decode cX6_wick 1 = .ok (.iconst 0, 1) := by decide +kernel
theorem dX6_wick_2 : decode cX6_wick 2 = .ok (.iconst 5, 1) := by decide +kernel
theorem dX6_wick_3 : decode cX6_wick 3 = .ok (.invokestatic 56, 3) := by decide +kernel
theorem dX6_wick_6 : decode cX6_wick 6 = .ok (.ifCond .eq 23, 3) := by decide +kernel
theorem dX6_wick_9 : decode cX6_wick 9 = .ok (.iload_n 2, 1) := by decide +kernel
theorem dX6_wick_10 : decode cX6_wick 10 = .ok (.iconst 0, 1) := by decide +kernel
theorem dX6_wick_11 : decode cX6_wick 11 = .ok (.bipush 9, 2) := by decide +kernel
theorem dX6_wick_13 : decode cX6_wick 13 = .ok (.invokestatic 56, 3) := by decide +kernel
theorem dX6_wick_16 : decode cX6_wick 16 = .ok (.ifCond .eq 13, 3) := by decide +kernel
theorem dX6_wick_19 : decode cX6_wick 19 = .ok (.iload_n 3, 1) := by decide +kernel
theorem dX6_wick_20 : decode cX6_wick 20 = .ok (.iconst 1, 1) := by decide +kernel
theorem dX6_wick_21 : decode cX6_wick 21 = .ok (.bipush 99, 2) := by decide +kernel
theorem dX6_wick_23 : decode cX6_wick 23 = .ok (.invokestatic 56, 3) := by decide +kernel
theorem dX6_wick_26 : decode cX6_wick 26 = .ok (.ifCond .ne 6, 3) := by decide +kernel
theorem dX6_wick_29 : decode cX6_wick 29 = .ok (.bipush (-2), 2) := by decide +kernel
theorem dX6_wick_31 : decode cX6_wick 31 = .ok (.ireturn, 1) := by decide +kernel
theorem dX6_wick_32 : decode cX6_wick 32 = .ok (.aload_n 0, 1) := by decide +kernel
theorem dX6_wick_33 : decode cX6_wick 33 = .ok (.getfield 10, 3) := by decide +kernel
theorem dX6_wick_36 : decode cX6_wick 36 = .ok (.getfield 60, 3) := by decide +kernel
theorem dX6_wick_39 : decode cX6_wick 39 = .ok (.iconst 4, 1) := by decide +kernel
theorem dX6_wick_40 : decode cX6_wick 40 = .ok (.if_icmp .lt 6, 3) := by decide +kernel
theorem dX6_wick_43 : decode cX6_wick 43 = .ok (.bipush (-4), 2) := by decide +kernel
theorem dX6_wick_45 : decode cX6_wick 45 = .ok (.ireturn, 1) := by decide +kernel
theorem dX6_wick_46 : decode cX6_wick 46 = .ok (.aload_n 0, 1) := by decide +kernel
theorem dX6_wick_47 : decode cX6_wick 47 = .ok (.getfield 34, 3) := by decide +kernel
theorem dX6_wick_50 : decode cX6_wick 50 = .ok (.invokevirtual 64, 3) := by decide +kernel
theorem dX6_wick_53 : decode cX6_wick 53 = .ok (.aload_n 0, 1) := by decide +kernel
theorem dX6_wick_54 : decode cX6_wick 54 = .ok (.getfield 10, 3) := by decide +kernel
theorem dX6_wick_57 : decode cX6_wick 57 = .ok (.iload_n 1, 1) := by decide +kernel
theorem dX6_wick_58 : decode cX6_wick 58 = .ok (.iload_n 2, 1) := by decide +kernel
theorem dX6_wick_59 : decode cX6_wick 59 = .ok (.iload_n 3, 1) := by decide +kernel
theorem dX6_wick_60 : decode cX6_wick 60 = .ok (.invokevirtual 67, 3) := by decide +kernel
theorem dX6_wick_63 : decode cX6_wick 63 = .ok (.ireturn, 1) := by decide +kernel
theorem dX6_set_0 : decode cX6_set 0 = .ok (.iload_n 1, 1) := by decide +kernel
theorem dX6_set_1 : decode cX6_set 1 = .ok (.iconst 0, 1) := by decide +kernel
theorem dX6_set_2 : decode cX6_set 2 = .ok (.iconst 5, 1) := by decide +kernel
theorem dX6_set_3 : decode cX6_set 3 = .ok (.invokestatic 56, 3) := by decide +kernel
theorem dX6_set_6 : decode cX6_set 6 = .ok (.ifCond .eq 31, 3) := by decide +kernel
theorem dX6_set_9 : decode cX6_set 9 = .ok (.iload_n 3, 1) := by decide +kernel
theorem dX6_set_10 : decode cX6_set 10 = .ok (.iconst 0, 1) := by decide +kernel
theorem dX6_set_11 : decode cX6_set 11 = .ok (.iload_n 1, 1) := by decide +kernel
theorem dX6_set_12 : decode cX6_set 12 = .ok (.invokestatic 71, 3) := by decide +kernel
theorem dX6_set_15 : decode cX6_set 15 = .ok (.invokestatic 56, 3) := by decide +kernel
theorem dX6_set_18 : decode cX6_set 18 = .ok (.ifCond .eq 19, 3) := by decide +kernel
theorem dX6_set_21 : decode cX6_set 21 = .ok (.iload_n 1, 1) := by decide +kernel
theorem dX6_set_22 : decode cX6_set 22 = .ok (.iconst 4, 1) := by decide +kernel
theorem dX6_set_23 : decode cX6_set 23 = .ok (.if_icmp .ge 17, 3) := by decide +kernel
theorem dX6_set_26 : decode cX6_set 26 = .ok (.aload_n 0, 1) := by decide +kernel
theorem dX6_set_27 : decode cX6_set 27 = .ok (.getfield 10, 3) := by decide +kernel
theorem dX6_set_30 : decode cX6_set 30 = .ok (.iload_n 2, 1) := by decide +kernel
theorem dX6_set_31 : decode cX6_set 31 = .ok (.invokevirtual 75, 3) := by decide +kernel
theorem dX6_set_34 : decode cX6_set 34 = .ok (.ifCond .ne 6, 3) := by decide +kernel
theorem dX6_set_37 : decode cX6_set 37 = .ok (.bipush (-2), 2) := by decide +kernel
theorem dX6_set_39 : decode cX6_set 39 = .ok (.ireturn, 1) := by decide +kernel
theorem dX6_set_40 : decode cX6_set 40 = .ok (.iload_n 1, 1) := by decide +kernel
theorem dX6_set_41 : decode cX6_set 41 = .ok (.iconst 1, 1) := by decide +kernel
theorem dX6_set_42 : decode cX6_set 42 = .ok (.if_icmp .ne 22, 3) := by decide +kernel
theorem dX6_set_45 : decode cX6_set 45 = .ok (.iload_n 3, 1) := by decide +kernel
theorem dX6_set_46 : decode cX6_set 46 = .ok (.ifCond .le 18, 3) := by decide +kernel
theorem dX6_set_49 : decode cX6_set 49 = .ok (.aload_n 0, 1) := by decide +kernel
theorem dX6_set_50 : decode cX6_set 50 = .ok (.getfield 10, 3) := by decide +kernel
theorem dX6_set_53 : decode cX6_set 53 = .ok (.getfield 79, 3) := by decide +kernel
theorem dX6_set_56 : decode cX6_set 56 = .ok (.iload_n 2, 1) := by decide +kernel
theorem dX6_set_57 : decode cX6_set 57 = .ok (.iaload, 1) := by decide +kernel
theorem dX6_set_58 : decode cX6_set 58 = .ok (.ifCond .ne 6, 3) := by decide +kernel
theorem dX6_set_61 : decode cX6_set 61 = .ok (.bipush (-3), 2) := by decide +kernel
theorem dX6_set_63 : decode cX6_set 63 = .ok (.ireturn, 1) := by decide +kernel
theorem dX6_set_64 : decode cX6_set 64 = .ok (.aload_n 0, 1) := by decide +kernel
theorem dX6_set_65 : decode cX6_set 65 = .ok (.getfield 34, 3) := by decide +kernel
theorem dX6_set_68 : decode cX6_set 68 = .ok (.invokevirtual 64, 3) := by decide +kernel
theorem dX6_set_71 : decode cX6_set 71 = .ok (.iload_n 1, 1) := by decide +kernel
theorem dX6_set_72 : decode cX6_set 72 = .ok (.iconst 4, 1) := by decide +kernel
theorem dX6_set_73 : decode cX6_set 73 = .ok (.if_icmp .ne 9, 3) := by decide +kernel
theorem dX6_set_76 : decode cX6_set 76 = .ok (.aload_n 0, 1) := by decide +kernel
theorem dX6_set_77 : decode cX6_set 77 = .ok (.iload_n 3, 1) := by decide +kernel
theorem dX6_set_78 : decode cX6_set 78 = .ok (.invokevirtual 82, 3) := by decide +kernel
theorem dX6_set_81 : decode cX6_set 81 = .ok (.ireturn, 1) := by decide +kernel
theorem dX6_set_82 : decode cX6_set 82 = .ok (.iload_n 1, 1) := by decide +kernel
theorem dX6_set_83 : decode cX6_set 83 = .ok (.iconst 5, 1) := by decide +kernel
theorem dX6_set_84 : decode cX6_set 84 = .ok (.if_icmp .ne 11, 3) := by decide +kernel
theorem dX6_set_87 : decode cX6_set 87 = .ok (.aload_n 0, 1) := by decide +kernel
theorem dX6_set_88 : decode cX6_set 88 = .ok (.iload_n 3, 1) := by decide +kernel
theorem dX6_set_89 : decode cX6_set 89 = .ok (.invokevirtual 85, 3) := by decide +kernel
theorem dX6_set_92 : decode cX6_set 92 = .ok (.goto 13, 3) := by decide +kernel
theorem dX6_set_95 : decode cX6_set 95 = .ok (.aload_n 0, 1) := by decide +kernel
theorem dX6_set_96 : decode cX6_set 96 = .ok (.getfield 10, 3) := by decide +kernel
theorem dX6_set_99 : decode cX6_set 99 = .ok (.iload_n 1, 1) := by decide +kernel
theorem dX6_set_100 : decode cX6_set 100 = .ok (.iload_n 2, 1) := by decide +kernel
theorem dX6_set_101 : decode cX6_set 101 = .ok (.iload_n 3, 1) := by decide +kernel
theorem dX6_set_102 : decode cX6_set 102 = .ok (.invokevirtual 88, 3) := by decide +kernel
theorem dX6_set_105 : decode cX6_set 105 = .ok (.ireturn, 1) := by decide +kernel
theorem dX6_mostOf_0 : decode cX6_mostOf 0 = .ok (.iload_n 0, 1) := by decide +kernel
theorem dX6_mostOf_1 : decode cX6_mostOf 1 = .ok (.tableswitch 50 0 4 #[35, 38, 40, 44, 47], 35) := by decide +kernel
theorem dX6_mostOf_36 : decode cX6_mostOf 36 = .ok (.bipush 99, 2) := by decide +kernel
theorem dX6_mostOf_38 : decode cX6_mostOf 38 = .ok (.ireturn, 1) := by decide +kernel
theorem dX6_mostOf_39 : decode cX6_mostOf 39 = .ok (.iconst 2, 1) := by decide +kernel
theorem dX6_mostOf_40 : decode cX6_mostOf 40 = .ok (.ireturn, 1) := by decide +kernel
theorem dX6_mostOf_41 : decode cX6_mostOf 41 = .ok (.sipush 999, 3) := by decide +kernel
theorem dX6_mostOf_44 : decode cX6_mostOf 44 = .ok (.ireturn, 1) := by decide +kernel
theorem dX6_mostOf_45 : decode cX6_mostOf 45 = .ok (.bipush 9, 2) := by decide +kernel
theorem dX6_mostOf_47 : decode cX6_mostOf 47 = .ok (.ireturn, 1) := by decide +kernel
theorem dX6_mostOf_48 : decode cX6_mostOf 48 = .ok (.bipush 9, 2) := by decide +kernel
theorem dX6_mostOf_50 : decode cX6_mostOf 50 = .ok (.ireturn, 1) := by decide +kernel
theorem dX6_mostOf_51 : decode cX6_mostOf 51 = .ok (.sipush 9999, 3) := by decide +kernel
theorem dX6_mostOf_54 : decode cX6_mostOf 54 = .ok (.ireturn, 1) := by decide +kernel
theorem dX6_setDamp_0 : decode cX6_setDamp 0 = .ok (.aload_n 0, 1) := by decide +kernel
theorem dX6_setDamp_1 : decode cX6_setDamp 1 = .ok (.getfield 10, 3) := by decide +kernel
theorem dX6_setDamp_4 : decode cX6_setDamp 4 = .ok (.getfield 91, 3) := by decide +kernel
theorem dX6_setDamp_7 : decode cX6_setDamp 7 = .ok (.istore_n 2, 1) := by decide +kernel
theorem dX6_setDamp_8 : decode cX6_setDamp 8 = .ok (.aload_n 0, 1) := by decide +kernel
theorem dX6_setDamp_9 : decode cX6_setDamp 9 = .ok (.getfield 10, 3) := by decide +kernel
theorem dX6_setDamp_12 : decode cX6_setDamp 12 = .ok (.iload_n 1, 1) := by decide +kernel
theorem dX6_setDamp_13 : decode cX6_setDamp 13 = .ok (.putfield 91, 3) := by decide +kernel
theorem dX6_setDamp_16 : decode cX6_setDamp 16 = .ok (.iload_n 2, 1) := by decide +kernel
theorem dX6_setDamp_17 : decode cX6_setDamp 17 = .ok (.ireturn, 1) := by decide +kernel
theorem dX6_setMoment_0 : decode cX6_setMoment 0 = .ok (.aload_n 0, 1) := by decide +kernel
theorem dX6_setMoment_1 : decode cX6_setMoment 1 = .ok (.getfield 10, 3) := by decide +kernel
theorem dX6_setMoment_4 : decode cX6_setMoment 4 = .ok (.getfield 94, 3) := by decide +kernel
theorem dX6_setMoment_7 : decode cX6_setMoment 7 = .ok (.istore_n 2, 1) := by decide +kernel
theorem dX6_setMoment_8 : decode cX6_setMoment 8 = .ok (.aload_n 0, 1) := by decide +kernel
theorem dX6_setMoment_9 : decode cX6_setMoment 9 = .ok (.getfield 10, 3) := by decide +kernel
theorem dX6_setMoment_12 : decode cX6_setMoment 12 = .ok (.iload_n 1, 1) := by decide +kernel
theorem dX6_setMoment_13 : decode cX6_setMoment 13 = .ok (.putfield 94, 3) := by decide +kernel
theorem dX6_setMoment_16 : decode cX6_setMoment 16 = .ok (.iload_n 2, 1) := by decide +kernel
theorem dX6_setMoment_17 : decode cX6_setMoment 17 = .ok (.ireturn, 1) := by decide +kernel
theorem dX6_told_0 : decode cX6_told 0 = .ok (.aload_n 0, 1) := by decide +kernel
theorem dX6_told_1 : decode cX6_told 1 = .ok (.getfield 10, 3) := by decide +kernel
theorem dX6_told_4 : decode cX6_told 4 = .ok (.iload_n 1, 1) := by decide +kernel
theorem dX6_told_5 : decode cX6_told 5 = .ok (.invokevirtual 75, 3) := by decide +kernel
theorem dX6_told_8 : decode cX6_told 8 = .ok (.ifCond .ne 6, 3) := by decide +kernel
theorem dX6_told_11 : decode cX6_told 11 = .ok (.bipush (-2), 2) := by decide +kernel
theorem dX6_told_13 : decode cX6_told 13 = .ok (.ireturn, 1) := by decide +kernel
theorem dX6_told_14 : decode cX6_told 14 = .ok (.iload_n 2, 1) := by decide +kernel
theorem dX6_told_15 : decode cX6_told 15 = .ok (.tableswitch 176 0 8 #[49, 59, 69, 79, 89, 99, 124, 142, 159], 49) := by decide +kernel
theorem dX6_told_64 : decode cX6_told 64 = .ok (.aload_n 0, 1) := by decide +kernel
theorem dX6_told_65 : decode cX6_told 65 = .ok (.getfield 10, 3) := by decide +kernel
theorem dX6_told_68 : decode cX6_told 68 = .ok (.getfield 79, 3) := by decide +kernel
theorem dX6_told_71 : decode cX6_told 71 = .ok (.iload_n 1, 1) := by decide +kernel
theorem dX6_told_72 : decode cX6_told 72 = .ok (.iaload, 1) := by decide +kernel
theorem dX6_told_73 : decode cX6_told 73 = .ok (.ireturn, 1) := by decide +kernel
theorem dX6_told_74 : decode cX6_told 74 = .ok (.aload_n 0, 1) := by decide +kernel
theorem dX6_told_75 : decode cX6_told 75 = .ok (.getfield 10, 3) := by decide +kernel
theorem dX6_told_78 : decode cX6_told 78 = .ok (.getfield 97, 3) := by decide +kernel
theorem dX6_told_81 : decode cX6_told 81 = .ok (.iload_n 1, 1) := by decide +kernel
theorem dX6_told_82 : decode cX6_told 82 = .ok (.iaload, 1) := by decide +kernel
theorem dX6_told_83 : decode cX6_told 83 = .ok (.ireturn, 1) := by decide +kernel
theorem dX6_told_84 : decode cX6_told 84 = .ok (.aload_n 0, 1) := by decide +kernel
theorem dX6_told_85 : decode cX6_told 85 = .ok (.getfield 10, 3) := by decide +kernel
theorem dX6_told_88 : decode cX6_told 88 = .ok (.getfield 100, 3) := by decide +kernel
theorem dX6_told_91 : decode cX6_told 91 = .ok (.iload_n 1, 1) := by decide +kernel
theorem dX6_told_92 : decode cX6_told 92 = .ok (.iaload, 1) := by decide +kernel
theorem dX6_told_93 : decode cX6_told 93 = .ok (.ireturn, 1) := by decide +kernel
theorem dX6_told_94 : decode cX6_told 94 = .ok (.aload_n 0, 1) := by decide +kernel
theorem dX6_told_95 : decode cX6_told 95 = .ok (.getfield 10, 3) := by decide +kernel
theorem dX6_told_98 : decode cX6_told 98 = .ok (.getfield 103, 3) := by decide +kernel
theorem dX6_told_101 : decode cX6_told 101 = .ok (.iload_n 1, 1) := by decide +kernel
theorem dX6_told_102 : decode cX6_told 102 = .ok (.iaload, 1) := by decide +kernel
theorem dX6_told_103 : decode cX6_told 103 = .ok (.ireturn, 1) := by decide +kernel
theorem dX6_told_104 : decode cX6_told 104 = .ok (.aload_n 0, 1) := by decide +kernel
theorem dX6_told_105 : decode cX6_told 105 = .ok (.getfield 10, 3) := by decide +kernel
theorem dX6_told_108 : decode cX6_told 108 = .ok (.getfield 106, 3) := by decide +kernel
theorem dX6_told_111 : decode cX6_told 111 = .ok (.iload_n 1, 1) := by decide +kernel
theorem dX6_told_112 : decode cX6_told 112 = .ok (.iaload, 1) := by decide +kernel
theorem dX6_told_113 : decode cX6_told 113 = .ok (.ireturn, 1) := by decide +kernel
theorem dX6_told_114 : decode cX6_told 114 = .ok (.aload_n 0, 1) := by decide +kernel
theorem dX6_told_115 : decode cX6_told 115 = .ok (.getfield 10, 3) := by decide +kernel
theorem dX6_told_118 : decode cX6_told 118 = .ok (.iload_n 1, 1) := by decide +kernel
theorem dX6_told_119 : decode cX6_told 119 = .ok (.aload_n 0, 1) := by decide +kernel
theorem dX6_told_120 : decode cX6_told 120 = .ok (.getfield 10, 3) := by decide +kernel
theorem dX6_told_123 : decode cX6_told 123 = .ok (.getfield 97, 3) := by decide +kernel
theorem dX6_told_126 : decode cX6_told 126 = .ok (.iload_n 1, 1) := by decide +kernel
theorem dX6_told_127 : decode cX6_told 127 = .ok (.iaload, 1) := by decide +kernel
theorem dX6_told_128 : decode cX6_told 128 = .ok (.aload_n 0, 1) := by decide +kernel
theorem dX6_told_129 : decode cX6_told 129 = .ok (.getfield 10, 3) := by decide +kernel
theorem dX6_told_132 : decode cX6_told 132 = .ok (.getfield 91, 3) := by decide +kernel
theorem dX6_told_135 : decode cX6_told 135 = .ok (.invokevirtual 109, 3) := by decide +kernel
theorem dX6_told_138 : decode cX6_told 138 = .ok (.ireturn, 1) := by decide +kernel
theorem dX6_told_139 : decode cX6_told 139 = .ok (.aload_n 0, 1) := by decide +kernel
theorem dX6_told_140 : decode cX6_told 140 = .ok (.getfield 10, 3) := by decide +kernel
theorem dX6_told_143 : decode cX6_told 143 = .ok (.iload_n 1, 1) := by decide +kernel
theorem dX6_told_144 : decode cX6_told 144 = .ok (.aload_n 0, 1) := by decide +kernel
theorem dX6_told_145 : decode cX6_told 145 = .ok (.getfield 10, 3) := by decide +kernel
theorem dX6_told_148 : decode cX6_told 148 = .ok (.getfield 100, 3) := by decide +kernel
theorem dX6_told_151 : decode cX6_told 151 = .ok (.iload_n 1, 1) := by decide +kernel
theorem dX6_told_152 : decode cX6_told 152 = .ok (.iaload, 1) := by decide +kernel
theorem dX6_told_153 : decode cX6_told 153 = .ok (.invokevirtual 112, 3) := by decide +kernel
theorem dX6_told_156 : decode cX6_told 156 = .ok (.ireturn, 1) := by decide +kernel
theorem dX6_told_157 : decode cX6_told 157 = .ok (.aload_n 0, 1) := by decide +kernel
theorem dX6_told_158 : decode cX6_told 158 = .ok (.getfield 10, 3) := by decide +kernel
theorem dX6_told_161 : decode cX6_told 161 = .ok (.iload_n 1, 1) := by decide +kernel
theorem dX6_told_162 : decode cX6_told 162 = .ok (.iconst 1, 1) := by decide +kernel
theorem dX6_told_163 : decode cX6_told 163 = .ok (.aload_n 0, 1) := by decide +kernel
theorem dX6_told_164 : decode cX6_told 164 = .ok (.getfield 10, 3) := by decide +kernel
theorem dX6_told_167 : decode cX6_told 167 = .ok (.getfield 91, 3) := by decide +kernel
theorem dX6_told_170 : decode cX6_told 170 = .ok (.invokevirtual 109, 3) := by decide +kernel
theorem dX6_told_173 : decode cX6_told 173 = .ok (.ireturn, 1) := by decide +kernel
theorem dX6_told_174 : decode cX6_told 174 = .ok (.aload_n 0, 1) := by decide +kernel
theorem dX6_told_175 : decode cX6_told 175 = .ok (.getfield 10, 3) := by decide +kernel
theorem dX6_told_178 : decode cX6_told 178 = .ok (.iload_n 1, 1) := by decide +kernel
theorem dX6_told_179 : decode cX6_told 179 = .ok (.iconst 2, 1) := by decide +kernel
theorem dX6_told_180 : decode cX6_told 180 = .ok (.aload_n 0, 1) := by decide +kernel
theorem dX6_told_181 : decode cX6_told 181 = .ok (.getfield 10, 3) := by decide +kernel
theorem dX6_told_184 : decode cX6_told 184 = .ok (.getfield 91, 3) := by decide +kernel
theorem dX6_told_187 : decode cX6_told 187 = .ok (.invokevirtual 109, 3) := by decide +kernel
theorem dX6_told_190 : decode cX6_told 190 = .ok (.ireturn, 1) := by decide +kernel
theorem dX6_told_191 : decode cX6_told 191 = .ok (.bipush (-2), 2) := by decide +kernel
theorem dX6_told_193 : decode cX6_told 193 = .ok (.ireturn, 1) := by decide +kernel
theorem dX6_feed_0 : decode cX6_feed 0 = .ok (.iload_n 1, 1) := by decide +kernel
theorem dX6_feed_1 : decode cX6_feed 1 = .ok (.iconst 0, 1) := by decide +kernel
theorem dX6_feed_2 : decode cX6_feed 2 = .ok (.sipush 255, 3) := by decide +kernel
theorem dX6_feed_5 : decode cX6_feed 5 = .ok (.invokestatic 56, 3) := by decide +kernel
theorem dX6_feed_8 : decode cX6_feed 8 = .ok (.ifCond .ne 6, 3) := by decide +kernel
theorem dX6_feed_11 : decode cX6_feed 11 = .ok (.bipush (-2), 2) := by decide +kernel
theorem dX6_feed_13 : decode cX6_feed 13 = .ok (.ireturn, 1) := by decide +kernel
theorem dX6_feed_14 : decode cX6_feed 14 = .ok (.aload_n 0, 1) := by decide +kernel
theorem dX6_feed_15 : decode cX6_feed 15 = .ok (.getfield 25, 3) := by decide +kernel
theorem dX6_feed_18 : decode cX6_feed 18 = .ok (.iload_n 1, 1) := by decide +kernel
theorem dX6_feed_19 : decode cX6_feed 19 = .ok (.invokevirtual 116, 3) := by decide +kernel
theorem dX6_feed_22 : decode cX6_feed 22 = .ok (.ireturn, 1) := by decide +kernel
theorem dX6_text_0 : decode cX6_text 0 = .ok (.aload_n 0, 1) := by decide +kernel
theorem dX6_text_1 : decode cX6_text 1 = .ok (.getfield 25, 3) := by decide +kernel
theorem dX6_text_4 : decode cX6_text 4 = .ok (.invokevirtual 119, 3) := by decide +kernel
theorem dX6_text_7 : decode cX6_text 7 = .ok (.ireturn, 1) := by decide +kernel
theorem dX6_force_0 : decode cX6_force 0 = .ok (.iload_n 1, 1) := by decide +kernel
theorem dX6_force_1 : decode cX6_force 1 = .ok (.iconst 0, 1) := by decide +kernel
theorem dX6_force_2 : decode cX6_force 2 = .ok (.aload_n 0, 1) := by decide +kernel
theorem dX6_force_3 : decode cX6_force 3 = .ok (.getfield 25, 3) := by decide +kernel
theorem dX6_force_6 : decode cX6_force 6 = .ok (.getfield 123, 3) := by decide +kernel
theorem dX6_force_9 : decode cX6_force 9 = .ok (.iconst 1, 1) := by decide +kernel
theorem dX6_force_10 : decode cX6_force 10 = .ok (.isub, 1) := by decide +kernel
theorem dX6_force_11 : decode cX6_force 11 = .ok (.invokestatic 56, 3) := by decide +kernel
theorem dX6_force_14 : decode cX6_force 14 = .ok (.ifCond .ne 6, 3) := by decide +kernel
theorem dX6_force_17 : decode cX6_force 17 = .ok (.bipush (-2), 2) := by decide +kernel
theorem dX6_force_19 : decode cX6_force 19 = .ok (.ireturn, 1) := by decide +kernel
theorem dX6_force_20 : decode cX6_force 20 = .ok (.aload_n 0, 1) := by decide +kernel
theorem dX6_force_21 : decode cX6_force 21 = .ok (.getfield 10, 3) := by decide +kernel
theorem dX6_force_24 : decode cX6_force 24 = .ok (.getfield 124, 3) := by decide +kernel
theorem dX6_force_27 : decode cX6_force 27 = .ok (.istore_n 2, 1) := by decide +kernel
theorem dX6_force_28 : decode cX6_force 28 = .ok (.aload_n 0, 1) := by decide +kernel
theorem dX6_force_29 : decode cX6_force 29 = .ok (.getfield 10, 3) := by decide +kernel
theorem dX6_force_32 : decode cX6_force 32 = .ok (.iload_n 1, 1) := by decide +kernel
theorem dX6_force_33 : decode cX6_force 33 = .ok (.putfield 124, 3) := by decide +kernel
theorem dX6_force_36 : decode cX6_force 36 = .ok (.aload_n 0, 1) := by decide +kernel
theorem dX6_force_37 : decode cX6_force 37 = .ok (.getfield 34, 3) := by decide +kernel
theorem dX6_force_40 : decode cX6_force 40 = .ok (.invokevirtual 64, 3) := by decide +kernel
theorem dX6_force_43 : decode cX6_force 43 = .ok (.iload_n 2, 1) := by decide +kernel
theorem dX6_force_44 : decode cX6_force 44 = .ok (.ireturn, 1) := by decide +kernel
theorem dX6_light_0 : decode cX6_light 0 = .ok (.aload_n 0, 1) := by decide +kernel
theorem dX6_light_1 : decode cX6_light 1 = .ok (.getfield 10, 3) := by decide +kernel
theorem dX6_light_4 : decode cX6_light 4 = .ok (.iload_n 1, 1) := by decide +kernel
theorem dX6_light_5 : decode cX6_light 5 = .ok (.invokevirtual 75, 3) := by decide +kernel
theorem dX6_light_8 : decode cX6_light 8 = .ok (.ifCond .eq 12, 3) := by decide +kernel
theorem dX6_light_11 : decode cX6_light 11 = .ok (.iload_n 2, 1) := by decide +kernel
theorem dX6_light_12 : decode cX6_light 12 = .ok (.iconst 1, 1) := by decide +kernel
theorem dX6_light_13 : decode cX6_light 13 = .ok (.iconst 2, 1) := by decide +kernel
theorem dX6_light_14 : decode cX6_light 14 = .ok (.invokestatic 56, 3) := by decide +kernel
theorem dX6_light_17 : decode cX6_light 17 = .ok (.ifCond .ne 6, 3) := by decide +kernel
theorem dX6_light_20 : decode cX6_light 20 = .ok (.bipush (-2), 2) := by decide +kernel
theorem dX6_light_22 : decode cX6_light 22 = .ok (.ireturn, 1) := by decide +kernel
theorem dX6_light_23 : decode cX6_light 23 = .ok (.aload_n 0, 1) := by decide +kernel
theorem dX6_light_24 : decode cX6_light 24 = .ok (.getfield 10, 3) := by decide +kernel
theorem dX6_light_27 : decode cX6_light 27 = .ok (.iload_n 1, 1) := by decide +kernel
theorem dX6_light_28 : decode cX6_light 28 = .ok (.iload_n 2, 1) := by decide +kernel
theorem dX6_light_29 : decode cX6_light 29 = .ok (.invokevirtual 127, 3) := by decide +kernel
theorem dX6_light_32 : decode cX6_light 32 = .ok (.ifCond .ne 6, 3) := by decide +kernel
theorem dX6_light_35 : decode cX6_light 35 = .ok (.bipush (-3), 2) := by decide +kernel
theorem dX6_light_37 : decode cX6_light 37 = .ok (.ireturn, 1) := by decide +kernel
theorem dX6_light_38 : decode cX6_light 38 = .ok (.aload_n 0, 1) := by decide +kernel
theorem dX6_light_39 : decode cX6_light 39 = .ok (.getfield 34, 3) := by decide +kernel
theorem dX6_light_42 : decode cX6_light 42 = .ok (.invokevirtual 64, 3) := by decide +kernel
theorem dX6_light_45 : decode cX6_light 45 = .ok (.aload_n 0, 1) := by decide +kernel
theorem dX6_light_46 : decode cX6_light 46 = .ok (.getfield 10, 3) := by decide +kernel
theorem dX6_light_49 : decode cX6_light 49 = .ok (.getfield 97, 3) := by decide +kernel
theorem dX6_light_52 : decode cX6_light 52 = .ok (.iload_n 1, 1) := by decide +kernel
theorem dX6_light_53 : decode cX6_light 53 = .ok (.iaload, 1) := by decide +kernel
theorem dX6_light_54 : decode cX6_light 54 = .ok (.ireturn, 1) := by decide +kernel
theorem dX6_burn_0 : decode cX6_burn 0 = .ok (.iload_n 1, 1) := by decide +kernel
theorem dX6_burn_1 : decode cX6_burn 1 = .ok (.iconst 0, 1) := by decide +kernel
theorem dX6_burn_2 : decode cX6_burn 2 = .ok (.sipush 250, 3) := by decide +kernel
theorem dX6_burn_5 : decode cX6_burn 5 = .ok (.invokestatic 56, 3) := by decide +kernel
theorem dX6_burn_8 : decode cX6_burn 8 = .ok (.ifCond .ne 6, 3) := by decide +kernel
theorem dX6_burn_11 : decode cX6_burn 11 = .ok (.bipush (-2), 2) := by decide +kernel
theorem dX6_burn_13 : decode cX6_burn 13 = .ok (.ireturn, 1) := by decide +kernel
theorem dX6_burn_14 : decode cX6_burn 14 = .ok (.aload_n 0, 1) := by decide +kernel
theorem dX6_burn_15 : decode cX6_burn 15 = .ok (.getfield 34, 3) := by decide +kernel
theorem dX6_burn_18 : decode cX6_burn 18 = .ok (.invokevirtual 64, 3) := by decide +kernel
theorem dX6_burn_21 : decode cX6_burn 21 = .ok (.aload_n 0, 1) := by decide +kernel
theorem dX6_burn_22 : decode cX6_burn 22 = .ok (.getfield 10, 3) := by decide +kernel
theorem dX6_burn_25 : decode cX6_burn 25 = .ok (.iload_n 1, 1) := by decide +kernel
theorem dX6_burn_26 : decode cX6_burn 26 = .ok (.invokevirtual 131, 3) := by decide +kernel
theorem dX6_burn_29 : decode cX6_burn 29 = .ok (.ireturn, 1) := by decide +kernel
theorem dX6_out_0 : decode cX6_out 0 = .ok (.aload_n 0, 1) := by decide +kernel
theorem dX6_out_1 : decode cX6_out 1 = .ok (.getfield 10, 3) := by decide +kernel
theorem dX6_out_4 : decode cX6_out 4 = .ok (.iload_n 1, 1) := by decide +kernel
theorem dX6_out_5 : decode cX6_out 5 = .ok (.invokevirtual 75, 3) := by decide +kernel
theorem dX6_out_8 : decode cX6_out 8 = .ok (.ifCond .ne 6, 3) := by decide +kernel
theorem dX6_out_11 : decode cX6_out 11 = .ok (.bipush (-2), 2) := by decide +kernel
theorem dX6_out_13 : decode cX6_out 13 = .ok (.ireturn, 1) := by decide +kernel
theorem dX6_out_14 : decode cX6_out 14 = .ok (.aload_n 0, 1) := by decide +kernel
theorem dX6_out_15 : decode cX6_out 15 = .ok (.getfield 10, 3) := by decide +kernel
theorem dX6_out_18 : decode cX6_out 18 = .ok (.getfield 97, 3) := by decide +kernel
theorem dX6_out_21 : decode cX6_out 21 = .ok (.iload_n 1, 1) := by decide +kernel
theorem dX6_out_22 : decode cX6_out 22 = .ok (.iaload, 1) := by decide +kernel
theorem dX6_out_23 : decode cX6_out 23 = .ok (.ifCond .ne 7, 3) := by decide +kernel
theorem dX6_out_26 : decode cX6_out 26 = .ok (.iconst (-1), 1) := by decide +kernel
theorem dX6_out_27 : decode cX6_out 27 = .ok (.goto 27, 3) := by decide +kernel
theorem dX6_out_30 : decode cX6_out 30 = .ok (.aload_n 0, 1) := by decide +kernel
theorem dX6_out_31 : decode cX6_out 31 = .ok (.getfield 10, 3) := by decide +kernel
theorem dX6_out_34 : decode cX6_out 34 = .ok (.iload_n 1, 1) := by decide +kernel
theorem dX6_out_35 : decode cX6_out 35 = .ok (.aload_n 0, 1) := by decide +kernel
theorem dX6_out_36 : decode cX6_out 36 = .ok (.getfield 10, 3) := by decide +kernel
theorem dX6_out_39 : decode cX6_out 39 = .ok (.getfield 97, 3) := by decide +kernel
theorem dX6_out_42 : decode cX6_out 42 = .ok (.iload_n 1, 1) := by decide +kernel
theorem dX6_out_43 : decode cX6_out 43 = .ok (.iaload, 1) := by decide +kernel
theorem dX6_out_44 : decode cX6_out 44 = .ok (.aload_n 0, 1) := by decide +kernel
theorem dX6_out_45 : decode cX6_out 45 = .ok (.getfield 10, 3) := by decide +kernel
theorem dX6_out_48 : decode cX6_out 48 = .ok (.getfield 91, 3) := by decide +kernel
theorem dX6_out_51 : decode cX6_out 51 = .ok (.invokevirtual 134, 3) := by decide +kernel
theorem dX6_out_54 : decode cX6_out 54 = .ok (.ireturn, 1) := by decide +kernel
theorem dX6_spans_0 : decode cX6_spans 0 = .ok (.iload_n 2, 1) := by decide +kernel
theorem dX6_spans_1 : decode cX6_spans 1 = .ok (.iconst 0, 1) := by decide +kernel
theorem dX6_spans_2 : decode cX6_spans 2 = .ok (.bipush 12, 2) := by decide +kernel
theorem dX6_spans_4 : decode cX6_spans 4 = .ok (.invokestatic 56, 3) := by decide +kernel
theorem dX6_spans_7 : decode cX6_spans 7 = .ok (.ifCond .eq 14, 3) := by decide +kernel
theorem dX6_spans_10 : decode cX6_spans 10 = .ok (.aload_n 0, 1) := by decide +kernel
theorem dX6_spans_11 : decode cX6_spans 11 = .ok (.getfield 10, 3) := by decide +kernel
theorem dX6_spans_14 : decode cX6_spans 14 = .ok (.iload_n 1, 1) := by decide +kernel
theorem dX6_spans_15 : decode cX6_spans 15 = .ok (.invokevirtual 137, 3) := by decide +kernel
theorem dX6_spans_18 : decode cX6_spans 18 = .ok (.ifCond .ne 6, 3) := by decide +kernel
theorem dX6_spans_21 : decode cX6_spans 21 = .ok (.bipush (-2), 2) := by decide +kernel
theorem dX6_spans_23 : decode cX6_spans 23 = .ok (.ireturn, 1) := by decide +kernel
theorem dX6_spans_24 : decode cX6_spans 24 = .ok (.aload_n 0, 1) := by decide +kernel
theorem dX6_spans_25 : decode cX6_spans 25 = .ok (.getfield 34, 3) := by decide +kernel
theorem dX6_spans_28 : decode cX6_spans 28 = .ok (.iload_n 1, 1) := by decide +kernel
theorem dX6_spans_29 : decode cX6_spans 29 = .ok (.iconst 0, 1) := by decide +kernel
theorem dX6_spans_30 : decode cX6_spans 30 = .ok (.invokevirtual 140, 3) := by decide +kernel
theorem dX6_spans_33 : decode cX6_spans 33 = .ok (.iconst 0, 1) := by decide +kernel
theorem dX6_spans_34 : decode cX6_spans 34 = .ok (.istore_n 3, 1) := by decide +kernel
theorem dX6_spans_35 : decode cX6_spans 35 = .ok (.iconst 0, 1) := by decide +kernel
theorem dX6_spans_36 : decode cX6_spans 36 = .ok (.istore 4, 2) := by decide +kernel
theorem dX6_spans_38 : decode cX6_spans 38 = .ok (.iload 4, 2) := by decide +kernel
theorem dX6_spans_40 : decode cX6_spans 40 = .ok (.bipush 31, 2) := by decide +kernel
theorem dX6_spans_42 : decode cX6_spans 42 = .ok (.if_icmp .ge 33, 3) := by decide +kernel
theorem dX6_spans_45 : decode cX6_spans 45 = .ok (.aload_n 0, 1) := by decide +kernel
theorem dX6_spans_46 : decode cX6_spans 46 = .ok (.getfield 34, 3) := by decide +kernel
theorem dX6_spans_49 : decode cX6_spans 49 = .ok (.bipush 31, 2) := by decide +kernel
theorem dX6_spans_51 : decode cX6_spans 51 = .ok (.iload_n 2, 1) := by decide +kernel
theorem dX6_spans_52 : decode cX6_spans 52 = .ok (.imul, 1) := by decide +kernel
theorem dX6_spans_53 : decode cX6_spans 53 = .ok (.iload 4, 2) := by decide +kernel
theorem dX6_spans_55 : decode cX6_spans 55 = .ok (.iadd, 1) := by decide +kernel
theorem dX6_spans_56 : decode cX6_spans 56 = .ok (.invokevirtual 144, 3) := by decide +kernel
theorem dX6_spans_59 : decode cX6_spans 59 = .ok (.ifCond .eq 10, 3) := by decide +kernel
theorem dX6_spans_62 : decode cX6_spans 62 = .ok (.iload_n 3, 1) := by decide +kernel
theorem dX6_spans_63 : decode cX6_spans 63 = .ok (.iconst 1, 1) := by decide +kernel
theorem dX6_spans_64 : decode cX6_spans 64 = .ok (.iload 4, 2) := by decide +kernel
theorem dX6_spans_66 : decode cX6_spans 66 = .ok (.ishl, 1) := by decide +kernel
theorem dX6_spans_67 : decode cX6_spans 67 = .ok (.ior, 1) := by decide +kernel
theorem dX6_spans_68 : decode cX6_spans 68 = .ok (.istore_n 3, 1) := by decide +kernel
theorem dX6_spans_69 : decode cX6_spans 69 = .ok (.iinc 4 1, 3) := by decide +kernel
theorem dX6_spans_72 : decode cX6_spans 72 = .ok (.goto (-34), 3) := by decide +kernel
theorem dX6_spans_75 : decode cX6_spans 75 = .ok (.iload_n 3, 1) := by decide +kernel
theorem dX6_spans_76 : decode cX6_spans 76 = .ok (.ireturn, 1) := by decide +kernel
theorem dX6_tell_0 : decode cX6_tell 0 = .ok (.iload_n 2, 1) := by decide +kernel
theorem dX6_tell_1 : decode cX6_tell 1 = .ok (.iconst 1, 1) := by decide +kernel
theorem dX6_tell_2 : decode cX6_tell 2 = .ok (.sipush 400, 3) := by decide +kernel
theorem dX6_tell_5 : decode cX6_tell 5 = .ok (.invokestatic 56, 3) := by decide +kernel
theorem dX6_tell_8 : decode cX6_tell 8 = .ok (.ifCond .eq 23, 3) := by decide +kernel
theorem dX6_tell_11 : decode cX6_tell 11 = .ok (.iload_n 3, 1) := by decide +kernel
theorem dX6_tell_12 : decode cX6_tell 12 = .ok (.iconst 0, 1) := by decide +kernel
theorem dX6_tell_13 : decode cX6_tell 13 = .ok (.iconst 2, 1) := by decide +kernel
theorem dX6_tell_14 : decode cX6_tell 14 = .ok (.invokestatic 56, 3) := by decide +kernel
theorem dX6_tell_17 : decode cX6_tell 17 = .ok (.ifCond .eq 14, 3) := by decide +kernel
theorem dX6_tell_20 : decode cX6_tell 20 = .ok (.aload_n 0, 1) := by decide +kernel
theorem dX6_tell_21 : decode cX6_tell 21 = .ok (.getfield 10, 3) := by decide +kernel
theorem dX6_tell_24 : decode cX6_tell 24 = .ok (.iload_n 1, 1) := by decide +kernel
theorem dX6_tell_25 : decode cX6_tell 25 = .ok (.invokevirtual 137, 3) := by decide +kernel
theorem dX6_tell_28 : decode cX6_tell 28 = .ok (.ifCond .ne 6, 3) := by decide +kernel
theorem dX6_tell_31 : decode cX6_tell 31 = .ok (.bipush (-2), 2) := by decide +kernel
theorem dX6_tell_33 : decode cX6_tell 33 = .ok (.ireturn, 1) := by decide +kernel
theorem dX6_tell_34 : decode cX6_tell 34 = .ok (.aload_n 0, 1) := by decide +kernel
theorem dX6_tell_35 : decode cX6_tell 35 = .ok (.getfield 34, 3) := by decide +kernel
theorem dX6_tell_38 : decode cX6_tell 38 = .ok (.iload_n 1, 1) := by decide +kernel
theorem dX6_tell_39 : decode cX6_tell 39 = .ok (.iload_n 3, 1) := by decide +kernel
theorem dX6_tell_40 : decode cX6_tell 40 = .ok (.iconst 1, 1) := by decide +kernel
theorem dX6_tell_41 : decode cX6_tell 41 = .ok (.if_icmp .ne 7, 3) := by decide +kernel
theorem dX6_tell_44 : decode cX6_tell 44 = .ok (.iconst 1, 1) := by decide +kernel
theorem dX6_tell_45 : decode cX6_tell 45 = .ok (.goto 4, 3) := by decide +kernel
theorem dX6_tell_48 : decode cX6_tell 48 = .ok (.iconst 0, 1) := by decide +kernel
theorem dX6_tell_49 : decode cX6_tell 49 = .ok (.invokevirtual 140, 3) := by decide +kernel
theorem dX6_tell_52 : decode cX6_tell 52 = .ok (.aload_n 0, 1) := by decide +kernel
theorem dX6_tell_53 : decode cX6_tell 53 = .ok (.getfield 34, 3) := by decide +kernel
theorem dX6_tell_56 : decode cX6_tell 56 = .ok (.iload_n 2, 1) := by decide +kernel
theorem dX6_tell_57 : decode cX6_tell 57 = .ok (.invokevirtual 144, 3) := by decide +kernel
theorem dX6_tell_60 : decode cX6_tell 60 = .ok (.ifCond .ne 5, 3) := by decide +kernel
theorem dX6_tell_63 : decode cX6_tell 63 = .ok (.iconst (-1), 1) := by decide +kernel
theorem dX6_tell_64 : decode cX6_tell 64 = .ok (.ireturn, 1) := by decide +kernel
theorem dX6_tell_65 : decode cX6_tell 65 = .ok (.iload_n 3, 1) := by decide +kernel
theorem dX6_tell_66 : decode cX6_tell 66 = .ok (.iconst 1, 1) := by decide +kernel
theorem dX6_tell_67 : decode cX6_tell 67 = .ok (.if_icmp .ne 12, 3) := by decide +kernel
theorem dX6_tell_70 : decode cX6_tell 70 = .ok (.aload_n 0, 1) := by decide +kernel
theorem dX6_tell_71 : decode cX6_tell 71 = .ok (.getfield 34, 3) := by decide +kernel
theorem dX6_tell_74 : decode cX6_tell 74 = .ok (.iload_n 2, 1) := by decide +kernel
theorem dX6_tell_75 : decode cX6_tell 75 = .ok (.invokevirtual 147, 3) := by decide +kernel
theorem dX6_tell_78 : decode cX6_tell 78 = .ok (.ireturn, 1) := by decide +kernel
theorem dX6_tell_79 : decode cX6_tell 79 = .ok (.iload_n 3, 1) := by decide +kernel
theorem dX6_tell_80 : decode cX6_tell 80 = .ok (.ifCond .ne 14, 3) := by decide +kernel
theorem dX6_tell_83 : decode cX6_tell 83 = .ok (.aload_n 0, 1) := by decide +kernel
theorem dX6_tell_84 : decode cX6_tell 84 = .ok (.getfield 34, 3) := by decide +kernel
theorem dX6_tell_87 : decode cX6_tell 87 = .ok (.iload_n 2, 1) := by decide +kernel
theorem dX6_tell_88 : decode cX6_tell 88 = .ok (.invokevirtual 150, 3) := by decide +kernel
theorem dX6_tell_91 : decode cX6_tell 91 = .ok (.goto 11, 3) := by decide +kernel
theorem dX6_tell_94 : decode cX6_tell 94 = .ok (.aload_n 0, 1) := by decide +kernel
theorem dX6_tell_95 : decode cX6_tell 95 = .ok (.getfield 34, 3) := by decide +kernel
theorem dX6_tell_98 : decode cX6_tell 98 = .ok (.iload_n 2, 1) := by decide +kernel
theorem dX6_tell_99 : decode cX6_tell 99 = .ok (.invokevirtual 153, 3) := by decide +kernel
theorem dX6_tell_102 : decode cX6_tell 102 = .ok (.ireturn, 1) := by decide +kernel
theorem dX6_between_0 : decode cX6_between 0 = .ok (.iload_n 2, 1) := by decide +kernel
theorem dX6_between_1 : decode cX6_between 1 = .ok (.iconst 1, 1) := by decide +kernel
theorem dX6_between_2 : decode cX6_between 2 = .ok (.sipush 400, 3) := by decide +kernel
theorem dX6_between_5 : decode cX6_between 5 = .ok (.invokestatic 56, 3) := by decide +kernel
theorem dX6_between_8 : decode cX6_between 8 = .ok (.ifCond .eq 14, 3) := by decide +kernel
theorem dX6_between_11 : decode cX6_between 11 = .ok (.aload_n 0, 1) := by decide +kernel
theorem dX6_between_12 : decode cX6_between 12 = .ok (.getfield 10, 3) := by decide +kernel
theorem dX6_between_15 : decode cX6_between 15 = .ok (.iload_n 1, 1) := by decide +kernel
theorem dX6_between_16 : decode cX6_between 16 = .ok (.invokevirtual 137, 3) := by decide +kernel
theorem dX6_between_19 : decode cX6_between 19 = .ok (.ifCond .ne 6, 3) := by decide +kernel
theorem dX6_between_22 : decode cX6_between 22 = .ok (.bipush (-2), 2) := by decide +kernel
theorem dX6_between_24 : decode cX6_between 24 = .ok (.ireturn, 1) := by decide +kernel
theorem dX6_between_25 : decode cX6_between 25 = .ok (.aload_n 0, 1) := by decide +kernel
theorem dX6_between_26 : decode cX6_between 26 = .ok (.getfield 34, 3) := by decide +kernel
theorem dX6_between_29 : decode cX6_between 29 = .ok (.iload_n 1, 1) := by decide +kernel
theorem dX6_between_30 : decode cX6_between 30 = .ok (.iconst 0, 1) := by decide +kernel
theorem dX6_between_31 : decode cX6_between 31 = .ok (.invokevirtual 140, 3) := by decide +kernel
theorem dX6_between_34 : decode cX6_between 34 = .ok (.aload_n 0, 1) := by decide +kernel
theorem dX6_between_35 : decode cX6_between 35 = .ok (.getfield 34, 3) := by decide +kernel
theorem dX6_between_38 : decode cX6_between 38 = .ok (.iload_n 2, 1) := by decide +kernel
theorem dX6_between_39 : decode cX6_between 39 = .ok (.invokevirtual 156, 3) := by decide +kernel
theorem dX6_between_42 : decode cX6_between 42 = .ok (.ifCond .eq 7, 3) := by decide +kernel
theorem dX6_between_45 : decode cX6_between 45 = .ok (.iconst 1, 1) := by decide +kernel
theorem dX6_between_46 : decode cX6_between 46 = .ok (.goto 4, 3) := by decide +kernel
theorem dX6_between_49 : decode cX6_between 49 = .ok (.iconst 0, 1) := by decide +kernel
theorem dX6_between_50 : decode cX6_between 50 = .ok (.ireturn, 1) := by decide +kernel
theorem dX6_worth_0 : decode cX6_worth 0 = .ok (.iload_n 2, 1) := by decide +kernel
theorem dX6_worth_1 : decode cX6_worth 1 = .ok (.iconst 0, 1) := by decide +kernel
theorem dX6_worth_2 : decode cX6_worth 2 = .ok (.iconst 1, 1) := by decide +kernel
theorem dX6_worth_3 : decode cX6_worth 3 = .ok (.invokestatic 56, 3) := by decide +kernel
theorem dX6_worth_6 : decode cX6_worth 6 = .ok (.ifCond .eq 14, 3) := by decide +kernel
theorem dX6_worth_9 : decode cX6_worth 9 = .ok (.aload_n 0, 1) := by decide +kernel
theorem dX6_worth_10 : decode cX6_worth 10 = .ok (.getfield 10, 3) := by decide +kernel
theorem dX6_worth_13 : decode cX6_worth 13 = .ok (.iload_n 1, 1) := by decide +kernel
theorem dX6_worth_14 : decode cX6_worth 14 = .ok (.invokevirtual 137, 3) := by decide +kernel
theorem dX6_worth_17 : decode cX6_worth 17 = .ok (.ifCond .ne 6, 3) := by decide +kernel
theorem dX6_worth_20 : decode cX6_worth 20 = .ok (.bipush (-2), 2) := by decide +kernel
theorem dX6_worth_22 : decode cX6_worth 22 = .ok (.ireturn, 1) := by decide +kernel
theorem dX6_worth_23 : decode cX6_worth 23 = .ok (.aload_n 0, 1) := by decide +kernel
theorem dX6_worth_24 : decode cX6_worth 24 = .ok (.getfield 34, 3) := by decide +kernel
theorem dX6_worth_27 : decode cX6_worth 27 = .ok (.iload_n 1, 1) := by decide +kernel
theorem dX6_worth_28 : decode cX6_worth 28 = .ok (.iconst 0, 1) := by decide +kernel
theorem dX6_worth_29 : decode cX6_worth 29 = .ok (.invokevirtual 140, 3) := by decide +kernel
theorem dX6_worth_32 : decode cX6_worth 32 = .ok (.iconst (-1), 1) := by decide +kernel
theorem dX6_worth_33 : decode cX6_worth 33 = .ok (.istore_n 3, 1) := by decide +kernel
theorem dX6_worth_34 : decode cX6_worth 34 = .ok (.iconst (-1), 1) := by decide +kernel
theorem dX6_worth_35 : decode cX6_worth 35 = .ok (.istore 4, 2) := by decide +kernel
theorem dX6_worth_37 : decode cX6_worth 37 = .ok (.iconst 1, 1) := by decide +kernel
theorem dX6_worth_38 : decode cX6_worth 38 = .ok (.istore 5, 2) := by decide +kernel
theorem dX6_worth_40 : decode cX6_worth 40 = .ok (.iload 5, 2) := by decide +kernel
theorem dX6_worth_42 : decode cX6_worth 42 = .ok (.sipush 400, 3) := by decide +kernel
theorem dX6_worth_45 : decode cX6_worth 45 = .ok (.if_icmp .gt 46, 3) := by decide +kernel
theorem dX6_worth_48 : decode cX6_worth 48 = .ok (.aload_n 0, 1) := by decide +kernel
theorem dX6_worth_49 : decode cX6_worth 49 = .ok (.getfield 34, 3) := by decide +kernel
theorem dX6_worth_52 : decode cX6_worth 52 = .ok (.iload 5, 2) := by decide +kernel
theorem dX6_worth_54 : decode cX6_worth 54 = .ok (.invokevirtual 144, 3) := by decide +kernel
theorem dX6_worth_57 : decode cX6_worth 57 = .ok (.ifCond .eq 12, 3) := by decide +kernel
theorem dX6_worth_60 : decode cX6_worth 60 = .ok (.aload_n 0, 1) := by decide +kernel
theorem dX6_worth_61 : decode cX6_worth 61 = .ok (.iload 5, 2) := by decide +kernel
theorem dX6_worth_63 : decode cX6_worth 63 = .ok (.invokevirtual 159, 3) := by decide +kernel
theorem dX6_worth_66 : decode cX6_worth 66 = .ok (.goto 4, 3) := by decide +kernel
theorem dX6_worth_69 : decode cX6_worth 69 = .ok (.iconst (-1), 1) := by decide +kernel
theorem dX6_worth_70 : decode cX6_worth 70 = .ok (.istore 6, 2) := by decide +kernel
theorem dX6_worth_72 : decode cX6_worth 72 = .ok (.iload 6, 2) := by decide +kernel
theorem dX6_worth_74 : decode cX6_worth 74 = .ok (.iload_n 3, 1) := by decide +kernel
theorem dX6_worth_75 : decode cX6_worth 75 = .ok (.if_icmp .le 10, 3) := by decide +kernel
theorem dX6_worth_78 : decode cX6_worth 78 = .ok (.iload 6, 2) := by decide +kernel
theorem dX6_worth_80 : decode cX6_worth 80 = .ok (.istore_n 3, 1) := by decide +kernel
theorem dX6_worth_81 : decode cX6_worth 81 = .ok (.iload 5, 2) := by decide +kernel
theorem dX6_worth_83 : decode cX6_worth 83 = .ok (.istore 4, 2) := by decide +kernel
theorem dX6_worth_85 : decode cX6_worth 85 = .ok (.iinc 5 1, 3) := by decide +kernel
theorem dX6_worth_88 : decode cX6_worth 88 = .ok (.goto (-48), 3) := by decide +kernel
theorem dX6_worth_91 : decode cX6_worth 91 = .ok (.iload_n 2, 1) := by decide +kernel
theorem dX6_worth_92 : decode cX6_worth 92 = .ok (.ifCond .ne 8, 3) := by decide +kernel
theorem dX6_worth_95 : decode cX6_worth 95 = .ok (.iload 4, 2) := by decide +kernel
theorem dX6_worth_97 : decode cX6_worth 97 = .ok (.goto 4, 3) := by decide +kernel
theorem dX6_worth_100 : decode cX6_worth 100 = .ok (.iload_n 3, 1) := by decide +kernel
theorem dX6_worth_101 : decode cX6_worth 101 = .ok (.ireturn, 1) := by decide +kernel
theorem dX6_worthOf_0 : decode cX6_worthOf 0 = .ok (.aload_n 0, 1) := by decide +kernel
theorem dX6_worthOf_1 : decode cX6_worthOf 1 = .ok (.getfield 25, 3) := by decide +kernel
theorem dX6_worthOf_4 : decode cX6_worthOf 4 = .ok (.iconst 0, 1) := by decide +kernel
theorem dX6_worthOf_5 : decode cX6_worthOf 5 = .ok (.aload_n 0, 1) := by decide +kernel
theorem dX6_worthOf_6 : decode cX6_worthOf 6 = .ok (.getfield 10, 3) := by decide +kernel
theorem dX6_worthOf_9 : decode cX6_worthOf 9 = .ok (.getfield 91, 3) := by decide +kernel
theorem dX6_worthOf_12 : decode cX6_worthOf 12 = .ok (.iconst 0, 1) := by decide +kernel
theorem dX6_worthOf_13 : decode cX6_worthOf 13 = .ok (.iconst 0, 1) := by decide +kernel
theorem dX6_worthOf_14 : decode cX6_worthOf 14 = .ok (.iconst 0, 1) := by decide +kernel
theorem dX6_worthOf_15 : decode cX6_worthOf 15 = .ok (.iload_n 1, 1) := by decide +kernel
theorem dX6_worthOf_16 : decode cX6_worthOf 16 = .ok (.invokevirtual 162, 3) := by decide +kernel
theorem dX6_worthOf_19 : decode cX6_worthOf 19 = .ok (.aload_n 0, 1) := by decide +kernel
theorem dX6_worthOf_20 : decode cX6_worthOf 20 = .ok (.getfield 25, 3) := by decide +kernel
theorem dX6_worthOf_23 : decode cX6_worthOf 23 = .ok (.aload_n 0, 1) := by decide +kernel
theorem dX6_worthOf_24 : decode cX6_worthOf 24 = .ok (.getfield 10, 3) := by decide +kernel
theorem dX6_worthOf_27 : decode cX6_worthOf 27 = .ok (.getfield 124, 3) := by decide +kernel
theorem dX6_worthOf_30 : decode cX6_worthOf 30 = .ok (.iconst 1, 1) := by decide +kernel
theorem dX6_worthOf_31 : decode cX6_worthOf 31 = .ok (.sipush 999, 3) := by decide +kernel
theorem dX6_worthOf_34 : decode cX6_worthOf 34 = .ok (.invokevirtual 166, 3) := by decide +kernel
theorem dX6_worthOf_37 : decode cX6_worthOf 37 = .ok (.ireturn, 1) := by decide +kernel
theorem dX6_sure_0 : decode cX6_sure 0 = .ok (.aload_n 0, 1) := by decide +kernel
theorem dX6_sure_1 : decode cX6_sure 1 = .ok (.getfield 10, 3) := by decide +kernel
theorem dX6_sure_4 : decode cX6_sure 4 = .ok (.iload_n 1, 1) := by decide +kernel
theorem dX6_sure_5 : decode cX6_sure 5 = .ok (.invokevirtual 137, 3) := by decide +kernel
theorem dX6_sure_8 : decode cX6_sure 8 = .ok (.ifCond .eq 14, 3) := by decide +kernel
theorem dX6_sure_11 : decode cX6_sure 11 = .ok (.aload_n 0, 1) := by decide +kernel
theorem dX6_sure_12 : decode cX6_sure 12 = .ok (.getfield 34, 3) := by decide +kernel
theorem dX6_sure_15 : decode cX6_sure 15 = .ok (.iload_n 1, 1) := by decide +kernel
theorem dX6_sure_16 : decode cX6_sure 16 = .ok (.invokevirtual 169, 3) := by decide +kernel
theorem dX6_sure_19 : decode cX6_sure 19 = .ok (.goto 6, 3) := by decide +kernel
theorem dX6_sure_22 : decode cX6_sure 22 = .ok (.ldc2_w 173, 3) := by decide +kernel
theorem dX6_sure_25 : decode cX6_sure 25 = .ok (.lreturn, 1) := by decide +kernel
theorem dX6_cheat_0 : decode cX6_cheat 0 = .ok (.aload_n 0, 1) := by decide +kernel
theorem dX6_cheat_1 : decode cX6_cheat 1 = .ok (.getfield 10, 3) := by decide +kernel
theorem dX6_cheat_4 : decode cX6_cheat 4 = .ok (.iload_n 1, 1) := by decide +kernel
theorem dX6_cheat_5 : decode cX6_cheat 5 = .ok (.invokevirtual 75, 3) := by decide +kernel
theorem dX6_cheat_8 : decode cX6_cheat 8 = .ok (.ifCond .eq 15, 3) := by decide +kernel
theorem dX6_cheat_11 : decode cX6_cheat 11 = .ok (.aload_n 0, 1) := by decide +kernel
theorem dX6_cheat_12 : decode cX6_cheat 12 = .ok (.getfield 10, 3) := by decide +kernel
theorem dX6_cheat_15 : decode cX6_cheat 15 = .ok (.getfield 79, 3) := by decide +kernel
theorem dX6_cheat_18 : decode cX6_cheat 18 = .ok (.iload_n 1, 1) := by decide +kernel
theorem dX6_cheat_19 : decode cX6_cheat 19 = .ok (.iaload, 1) := by decide +kernel
theorem dX6_cheat_20 : decode cX6_cheat 20 = .ok (.ifCond .ne 6, 3) := by decide +kernel
theorem dX6_cheat_23 : decode cX6_cheat 23 = .ok (.bipush (-2), 2) := by decide +kernel
theorem dX6_cheat_25 : decode cX6_cheat 25 = .ok (.ireturn, 1) := by decide +kernel
theorem dX6_cheat_26 : decode cX6_cheat 26 = .ok (.aload_n 0, 1) := by decide +kernel
theorem dX6_cheat_27 : decode cX6_cheat 27 = .ok (.getfield 10, 3) := by decide +kernel
theorem dX6_cheat_30 : decode cX6_cheat 30 = .ok (.iload_n 1, 1) := by decide +kernel
theorem dX6_cheat_31 : decode cX6_cheat 31 = .ok (.iconst 1, 1) := by decide +kernel
theorem dX6_cheat_32 : decode cX6_cheat 32 = .ok (.iconst 0, 1) := by decide +kernel
theorem dX6_cheat_33 : decode cX6_cheat 33 = .ok (.invokevirtual 134, 3) := by decide +kernel
theorem dX6_cheat_36 : decode cX6_cheat 36 = .ok (.istore_n 2, 1) := by decide +kernel
theorem dX6_cheat_37 : decode cX6_cheat 37 = .ok (.iconst 0, 1) := by decide +kernel
theorem dX6_cheat_38 : decode cX6_cheat 38 = .ok (.istore_n 3, 1) := by decide +kernel
theorem dX6_cheat_39 : decode cX6_cheat 39 = .ok (.iload_n 3, 1) := by decide +kernel
theorem dX6_cheat_40 : decode cX6_cheat 40 = .ok (.bipush 9, 2) := by decide +kernel
theorem dX6_cheat_42 : decode cX6_cheat 42 = .ok (.if_icmp .gt 25, 3) := by decide +kernel
theorem dX6_cheat_45 : decode cX6_cheat 45 = .ok (.aload_n 0, 1) := by decide +kernel
theorem dX6_cheat_46 : decode cX6_cheat 46 = .ok (.getfield 10, 3) := by decide +kernel
theorem dX6_cheat_49 : decode cX6_cheat 49 = .ok (.iload_n 1, 1) := by decide +kernel
theorem dX6_cheat_50 : decode cX6_cheat 50 = .ok (.iconst 1, 1) := by decide +kernel
theorem dX6_cheat_51 : decode cX6_cheat 51 = .ok (.iload_n 3, 1) := by decide +kernel
theorem dX6_cheat_52 : decode cX6_cheat 52 = .ok (.invokevirtual 134, 3) := by decide +kernel
theorem dX6_cheat_55 : decode cX6_cheat 55 = .ok (.iload_n 2, 1) := by decide +kernel
theorem dX6_cheat_56 : decode cX6_cheat 56 = .ok (.if_icmp .le 5, 3) := by decide +kernel
theorem dX6_cheat_59 : decode cX6_cheat 59 = .ok (.iload_n 3, 1) := by decide +kernel
theorem dX6_cheat_60 : decode cX6_cheat 60 = .ok (.ireturn, 1) := by decide +kernel
theorem dX6_cheat_61 : decode cX6_cheat 61 = .ok (.iinc 3 1, 3) := by decide +kernel
theorem dX6_cheat_64 : decode cX6_cheat 64 = .ok (.goto (-25), 3) := by decide +kernel
theorem dX6_cheat_67 : decode cX6_cheat 67 = .ok (.iconst (-1), 1) := by decide +kernel
theorem dX6_cheat_68 : decode cX6_cheat 68 = .ok (.ireturn, 1) := by decide +kernel
theorem dX6_which_0 : decode cX6_which 0 = .ok (.iload_n 1, 1) := by decide +kernel
theorem dX6_which_1 : decode cX6_which 1 = .ok (.iconst 0, 1) := by decide +kernel
theorem dX6_which_2 : decode cX6_which 2 = .ok (.sipush 9999, 3) := by decide +kernel
theorem dX6_which_5 : decode cX6_which 5 = .ok (.invokestatic 56, 3) := by decide +kernel
theorem dX6_which_8 : decode cX6_which 8 = .ok (.ifCond .ne 6, 3) := by decide +kernel
theorem dX6_which_11 : decode cX6_which 11 = .ok (.bipush (-2), 2) := by decide +kernel
theorem dX6_which_13 : decode cX6_which 13 = .ok (.ireturn, 1) := by decide +kernel
theorem dX6_which_14 : decode cX6_which 14 = .ok (.iconst 0, 1) := by decide +kernel
theorem dX6_which_15 : decode cX6_which 15 = .ok (.istore_n 2, 1) := by decide +kernel
theorem dX6_which_16 : decode cX6_which 16 = .ok (.iconst 0, 1) := by decide +kernel
theorem dX6_which_17 : decode cX6_which 17 = .ok (.istore_n 3, 1) := by decide +kernel
theorem dX6_which_18 : decode cX6_which 18 = .ok (.iload_n 3, 1) := by decide +kernel
theorem dX6_which_19 : decode cX6_which 19 = .ok (.aload_n 0, 1) := by decide +kernel
theorem dX6_which_20 : decode cX6_which 20 = .ok (.getfield 10, 3) := by decide +kernel
theorem dX6_which_23 : decode cX6_which 23 = .ok (.getfield 60, 3) := by decide +kernel
theorem dX6_which_26 : decode cX6_which 26 = .ok (.if_icmp .ge 56, 3) := by decide +kernel
theorem dX6_which_29 : decode cX6_which 29 = .ok (.sipush 999, 3) := by decide +kernel
theorem dX6_which_32 : decode cX6_which 32 = .ok (.aload_n 0, 1) := by decide +kernel
theorem dX6_which_33 : decode cX6_which 33 = .ok (.getfield 10, 3) := by decide +kernel
theorem dX6_which_36 : decode cX6_which 36 = .ok (.getfield 100, 3) := by decide +kernel
theorem dX6_which_39 : decode cX6_which 39 = .ok (.iload_n 3, 1) := by decide +kernel
theorem dX6_which_40 : decode cX6_which 40 = .ok (.iaload, 1) := by decide +kernel
theorem dX6_which_41 : decode cX6_which 41 = .ok (.aload_n 0, 1) := by decide +kernel
theorem dX6_which_42 : decode cX6_which 42 = .ok (.getfield 10, 3) := by decide +kernel
theorem dX6_which_45 : decode cX6_which 45 = .ok (.getfield 79, 3) := by decide +kernel
theorem dX6_which_48 : decode cX6_which 48 = .ok (.iload_n 3, 1) := by decide +kernel
theorem dX6_which_49 : decode cX6_which 49 = .ok (.iaload, 1) := by decide +kernel
theorem dX6_which_50 : decode cX6_which 50 = .ok (.iadd, 1) := by decide +kernel
theorem dX6_which_51 : decode cX6_which 51 = .ok (.invokestatic 175, 3) := by decide +kernel
theorem dX6_which_54 : decode cX6_which 54 = .ok (.istore 4, 2) := by decide +kernel
theorem dX6_which_56 : decode cX6_which 56 = .ok (.aload_n 0, 1) := by decide +kernel
theorem dX6_which_57 : decode cX6_which 57 = .ok (.getfield 10, 3) := by decide +kernel
theorem dX6_which_60 : decode cX6_which 60 = .ok (.iload_n 3, 1) := by decide +kernel
theorem dX6_which_61 : decode cX6_which 61 = .ok (.iload 4, 2) := by decide +kernel
theorem dX6_which_63 : decode cX6_which 63 = .ok (.invokevirtual 112, 3) := by decide +kernel
theorem dX6_which_66 : decode cX6_which 66 = .ok (.iload_n 1, 1) := by decide +kernel
theorem dX6_which_67 : decode cX6_which 67 = .ok (.if_icmp .ne 9, 3) := by decide +kernel
theorem dX6_which_70 : decode cX6_which 70 = .ok (.iload_n 2, 1) := by decide +kernel
theorem dX6_which_71 : decode cX6_which 71 = .ok (.iconst 1, 1) := by decide +kernel
theorem dX6_which_72 : decode cX6_which 72 = .ok (.iload_n 3, 1) := by decide +kernel
theorem dX6_which_73 : decode cX6_which 73 = .ok (.ishl, 1) := by decide +kernel
theorem dX6_which_74 : decode cX6_which 74 = .ok (.ior, 1) := by decide +kernel
theorem dX6_which_75 : decode cX6_which 75 = .ok (.istore_n 2, 1) := by decide +kernel
theorem dX6_which_76 : decode cX6_which 76 = .ok (.iinc 3 1, 3) := by decide +kernel
theorem dX6_which_79 : decode cX6_which 79 = .ok (.goto (-61), 3) := by decide +kernel
theorem dX6_which_82 : decode cX6_which 82 = .ok (.iload_n 2, 1) := by decide +kernel
theorem dX6_which_83 : decode cX6_which 83 = .ok (.ireturn, 1) := by decide +kernel
theorem dX6_copies_0 : decode cX6_copies 0 = .ok (.aload_n 0, 1) := by decide +kernel
theorem dX6_copies_1 : decode cX6_copies 1 = .ok (.getfield 10, 3) := by decide +kernel
theorem dX6_copies_4 : decode cX6_copies 4 = .ok (.iload_n 1, 1) := by decide +kernel
theorem dX6_copies_5 : decode cX6_copies 5 = .ok (.invokevirtual 75, 3) := by decide +kernel
theorem dX6_copies_8 : decode cX6_copies 8 = .ok (.ifCond .eq 22, 3) := by decide +kernel
theorem dX6_copies_11 : decode cX6_copies 11 = .ok (.iload_n 2, 1) := by decide +kernel
theorem dX6_copies_12 : decode cX6_copies 12 = .ok (.iconst 1, 1) := by decide +kernel
theorem dX6_copies_13 : decode cX6_copies 13 = .ok (.bipush 12, 2) := by decide +kernel
theorem dX6_copies_15 : decode cX6_copies 15 = .ok (.invokestatic 56, 3) := by decide +kernel
theorem dX6_copies_18 : decode cX6_copies 18 = .ok (.ifCond .eq 12, 3) := by decide +kernel
theorem dX6_copies_21 : decode cX6_copies 21 = .ok (.iload_n 3, 1) := by decide +kernel
theorem dX6_copies_22 : decode cX6_copies 22 = .ok (.iconst 1, 1) := by decide +kernel
theorem dX6_copies_23 : decode cX6_copies 23 = .ok (.iconst 4, 1) := by decide +kernel
theorem dX6_copies_24 : decode cX6_copies 24 = .ok (.invokestatic 56, 3) := by decide +kernel
theorem dX6_copies_27 : decode cX6_copies 27 = .ok (.ifCond .ne 6, 3) := by decide +kernel
theorem dX6_copies_30 : decode cX6_copies 30 = .ok (.bipush (-2), 2) := by decide +kernel
theorem dX6_copies_32 : decode cX6_copies 32 = .ok (.ireturn, 1) := by decide +kernel
theorem dX6_copies_33 : decode cX6_copies 33 = .ok (.aload_n 0, 1) := by decide +kernel
theorem dX6_copies_34 : decode cX6_copies 34 = .ok (.iload_n 1, 1) := by decide +kernel
theorem dX6_copies_35 : decode cX6_copies 35 = .ok (.iload_n 2, 1) := by decide +kernel
theorem dX6_copies_36 : decode cX6_copies 36 = .ok (.iload_n 3, 1) := by decide +kernel
theorem dX6_copies_37 : decode cX6_copies 37 = .ok (.invokevirtual 180, 3) := by decide +kernel
theorem dX6_copies_40 : decode cX6_copies 40 = .ok (.ireturn, 1) := by decide +kernel
theorem dX6_farthestOff_0 : decode cX6_farthestOff 0 = .ok (.iconst 0, 1) := by decide +kernel
theorem dX6_farthestOff_1 : decode cX6_farthestOff 1 = .ok (.istore 4, 2) := by decide +kernel
theorem dX6_farthestOff_3 : decode cX6_farthestOff 3 = .ok (.iconst 1, 1) := by decide +kernel
theorem dX6_farthestOff_4 : decode cX6_farthestOff 4 = .ok (.istore 5, 2) := by decide +kernel
theorem dX6_farthestOff_6 : decode cX6_farthestOff 6 = .ok (.iload 5, 2) := by decide +kernel
theorem dX6_farthestOff_8 : decode cX6_farthestOff 8 = .ok (.iload_n 2, 1) := by decide +kernel
theorem dX6_farthestOff_9 : decode cX6_farthestOff 9 = .ok (.if_icmp .gt 124, 3) := by decide +kernel
theorem dX6_farthestOff_12 : decode cX6_farthestOff 12 = .ok (.iload 5, 2) := by decide +kernel
theorem dX6_farthestOff_14 : decode cX6_farthestOff 14 = .ok (.bipush 12, 2) := by decide +kernel
theorem dX6_farthestOff_16 : decode cX6_farthestOff 16 = .ok (.if_icmp .gt 117, 3) := by decide +kernel
theorem dX6_farthestOff_19 : decode cX6_farthestOff 19 = .ok (.iload_n 3, 1) := by decide +kernel
theorem dX6_farthestOff_20 : decode cX6_farthestOff 20 = .ok (.ifCond .le 113, 3) := by decide +kernel
theorem dX6_farthestOff_23 : decode cX6_farthestOff 23 = .ok (.iload 5, 2) := by decide +kernel
theorem dX6_farthestOff_25 : decode cX6_farthestOff 25 = .ok (.iconst 1, 1) := by decide +kernel
theorem dX6_farthestOff_26 : decode cX6_farthestOff 26 = .ok (.isub, 1) := by decide +kernel
theorem dX6_farthestOff_27 : decode cX6_farthestOff 27 = .ok (.iload_n 3, 1) := by decide +kernel
theorem dX6_farthestOff_28 : decode cX6_farthestOff 28 = .ok (.idiv, 1) := by decide +kernel
theorem dX6_farthestOff_29 : decode cX6_farthestOff 29 = .ok (.istore 6, 2) := by decide +kernel
theorem dX6_farthestOff_31 : decode cX6_farthestOff 31 = .ok (.aload_n 0, 1) := by decide +kernel
theorem dX6_farthestOff_32 : decode cX6_farthestOff 32 = .ok (.getfield 49, 3) := by decide +kernel
theorem dX6_farthestOff_35 : decode cX6_farthestOff 35 = .ok (.iload 5, 2) := by decide +kernel
theorem dX6_farthestOff_37 : decode cX6_farthestOff 37 = .ok (.aload_n 0, 1) := by decide +kernel
theorem dX6_farthestOff_38 : decode cX6_farthestOff 38 = .ok (.getfield 49, 3) := by decide +kernel
theorem dX6_farthestOff_41 : decode cX6_farthestOff 41 = .ok (.iload 6, 2) := by decide +kernel
theorem dX6_farthestOff_43 : decode cX6_farthestOff 43 = .ok (.iaload, 1) := by decide +kernel
theorem dX6_farthestOff_44 : decode cX6_farthestOff 44 = .ok (.iconst 1, 1) := by decide +kernel
theorem dX6_farthestOff_45 : decode cX6_farthestOff 45 = .ok (.iadd, 1) := by decide +kernel
theorem dX6_farthestOff_46 : decode cX6_farthestOff 46 = .ok (.iastore, 1) := by decide +kernel
theorem dX6_farthestOff_47 : decode cX6_farthestOff 47 = .ok (.aload_n 0, 1) := by decide +kernel
theorem dX6_farthestOff_48 : decode cX6_farthestOff 48 = .ok (.getfield 25, 3) := by decide +kernel
theorem dX6_farthestOff_51 : decode cX6_farthestOff 51 = .ok (.aload_n 0, 1) := by decide +kernel
theorem dX6_farthestOff_52 : decode cX6_farthestOff 52 = .ok (.getfield 10, 3) := by decide +kernel
theorem dX6_farthestOff_55 : decode cX6_farthestOff 55 = .ok (.getfield 79, 3) := by decide +kernel
theorem dX6_farthestOff_58 : decode cX6_farthestOff 58 = .ok (.iload_n 1, 1) := by decide +kernel
theorem dX6_farthestOff_59 : decode cX6_farthestOff 59 = .ok (.iaload, 1) := by decide +kernel
theorem dX6_farthestOff_60 : decode cX6_farthestOff 60 = .ok (.aload_n 0, 1) := by decide +kernel
theorem dX6_farthestOff_61 : decode cX6_farthestOff 61 = .ok (.getfield 10, 3) := by decide +kernel
theorem dX6_farthestOff_64 : decode cX6_farthestOff 64 = .ok (.getfield 91, 3) := by decide +kernel
theorem dX6_farthestOff_67 : decode cX6_farthestOff 67 = .ok (.iconst 0, 1) := by decide +kernel
theorem dX6_farthestOff_68 : decode cX6_farthestOff 68 = .ok (.iconst 0, 1) := by decide +kernel
theorem dX6_farthestOff_69 : decode cX6_farthestOff 69 = .ok (.iload 5, 2) := by decide +kernel
theorem dX6_farthestOff_71 : decode cX6_farthestOff 71 = .ok (.aload_n 0, 1) := by decide +kernel
theorem dX6_farthestOff_72 : decode cX6_farthestOff 72 = .ok (.getfield 49, 3) := by decide +kernel
theorem dX6_farthestOff_75 : decode cX6_farthestOff 75 = .ok (.iload 5, 2) := by decide +kernel
theorem dX6_farthestOff_77 : decode cX6_farthestOff 77 = .ok (.iaload, 1) := by decide +kernel
theorem dX6_farthestOff_78 : decode cX6_farthestOff 78 = .ok (.invokevirtual 162, 3) := by decide +kernel
theorem dX6_farthestOff_81 : decode cX6_farthestOff 81 = .ok (.aload_n 0, 1) := by decide +kernel
theorem dX6_farthestOff_82 : decode cX6_farthestOff 82 = .ok (.getfield 45, 3) := by decide +kernel
theorem dX6_farthestOff_85 : decode cX6_farthestOff 85 = .ok (.iload 5, 2) := by decide +kernel
theorem dX6_farthestOff_87 : decode cX6_farthestOff 87 = .ok (.aload_n 0, 1) := by decide +kernel
theorem dX6_farthestOff_88 : decode cX6_farthestOff 88 = .ok (.getfield 45, 3) := by decide +kernel
theorem dX6_farthestOff_91 : decode cX6_farthestOff 91 = .ok (.iload 6, 2) := by decide +kernel
theorem dX6_farthestOff_93 : decode cX6_farthestOff 93 = .ok (.iaload, 1) := by decide +kernel
theorem dX6_farthestOff_94 : decode cX6_farthestOff 94 = .ok (.aload_n 0, 1) := by decide +kernel
theorem dX6_farthestOff_95 : decode cX6_farthestOff 95 = .ok (.getfield 25, 3) := by decide +kernel
theorem dX6_farthestOff_98 : decode cX6_farthestOff 98 = .ok (.aload_n 0, 1) := by decide +kernel
theorem dX6_farthestOff_99 : decode cX6_farthestOff 99 = .ok (.getfield 10, 3) := by decide +kernel
theorem dX6_farthestOff_102 : decode cX6_farthestOff 102 = .ok (.getfield 124, 3) := by decide +kernel
theorem dX6_farthestOff_105 : decode cX6_farthestOff 105 = .ok (.iconst 2, 1) := by decide +kernel
theorem dX6_farthestOff_106 : decode cX6_farthestOff 106 = .ok (.bipush 99, 2) := by decide +kernel
theorem dX6_farthestOff_108 : decode cX6_farthestOff 108 = .ok (.invokevirtual 166, 3) := by decide +kernel
theorem dX6_farthestOff_111 : decode cX6_farthestOff 111 = .ok (.iadd, 1) := by decide +kernel
theorem dX6_farthestOff_112 : decode cX6_farthestOff 112 = .ok (.iastore, 1) := by decide +kernel
theorem dX6_farthestOff_113 : decode cX6_farthestOff 113 = .ok (.iload 4, 2) := by decide +kernel
theorem dX6_farthestOff_115 : decode cX6_farthestOff 115 = .ok (.aload_n 0, 1) := by decide +kernel
theorem dX6_farthestOff_116 : decode cX6_farthestOff 116 = .ok (.getfield 45, 3) := by decide +kernel
theorem dX6_farthestOff_119 : decode cX6_farthestOff 119 = .ok (.iload 5, 2) := by decide +kernel
theorem dX6_farthestOff_121 : decode cX6_farthestOff 121 = .ok (.iaload, 1) := by decide +kernel
theorem dX6_farthestOff_122 : decode cX6_farthestOff 122 = .ok (.invokestatic 183, 3) := by decide +kernel
theorem dX6_farthestOff_125 : decode cX6_farthestOff 125 = .ok (.istore 4, 2) := by decide +kernel
theorem dX6_farthestOff_127 : decode cX6_farthestOff 127 = .ok (.iinc 5 1, 3) := by decide +kernel
theorem dX6_farthestOff_130 : decode cX6_farthestOff 130 = .ok (.goto (-124), 3) := by decide +kernel
theorem dX6_farthestOff_133 : decode cX6_farthestOff 133 = .ok (.iload 4, 2) := by decide +kernel
theorem dX6_farthestOff_135 : decode cX6_farthestOff 135 = .ok (.ireturn, 1) := by decide +kernel
theorem dX6_best_0 : decode cX6_best 0 = .ok (.aload_n 0, 1) := by decide +kernel
theorem dX6_best_1 : decode cX6_best 1 = .ok (.getfield 10, 3) := by decide +kernel
theorem dX6_best_4 : decode cX6_best 4 = .ok (.iload_n 1, 1) := by decide +kernel
theorem dX6_best_5 : decode cX6_best 5 = .ok (.invokevirtual 75, 3) := by decide +kernel
theorem dX6_best_8 : decode cX6_best 8 = .ok (.ifCond .eq 22, 3) := by decide +kernel
theorem dX6_best_11 : decode cX6_best 11 = .ok (.iload_n 2, 1) := by decide +kernel
theorem dX6_best_12 : decode cX6_best 12 = .ok (.iconst 1, 1) := by decide +kernel
theorem dX6_best_13 : decode cX6_best 13 = .ok (.bipush 12, 2) := by decide +kernel
theorem dX6_best_15 : decode cX6_best 15 = .ok (.invokestatic 56, 3) := by decide +kernel
theorem dX6_best_18 : decode cX6_best 18 = .ok (.ifCond .eq 12, 3) := by decide +kernel
theorem dX6_best_21 : decode cX6_best 21 = .ok (.iload_n 3, 1) := by decide +kernel
theorem dX6_best_22 : decode cX6_best 22 = .ok (.iconst 0, 1) := by decide +kernel
theorem dX6_best_23 : decode cX6_best 23 = .ok (.iconst 1, 1) := by decide +kernel
theorem dX6_best_24 : decode cX6_best 24 = .ok (.invokestatic 56, 3) := by decide +kernel
theorem dX6_best_27 : decode cX6_best 27 = .ok (.ifCond .ne 6, 3) := by decide +kernel
theorem dX6_best_30 : decode cX6_best 30 = .ok (.bipush (-2), 2) := by decide +kernel
theorem dX6_best_32 : decode cX6_best 32 = .ok (.ireturn, 1) := by decide +kernel
theorem dX6_best_33 : decode cX6_best 33 = .ok (.iconst 1, 1) := by decide +kernel
theorem dX6_best_34 : decode cX6_best 34 = .ok (.istore 4, 2) := by decide +kernel
theorem dX6_best_36 : decode cX6_best 36 = .ok (.aload_n 0, 1) := by decide +kernel
theorem dX6_best_37 : decode cX6_best 37 = .ok (.iload_n 1, 1) := by decide +kernel
theorem dX6_best_38 : decode cX6_best 38 = .ok (.iload_n 2, 1) := by decide +kernel
theorem dX6_best_39 : decode cX6_best 39 = .ok (.iload 4, 2) := by decide +kernel
theorem dX6_best_41 : decode cX6_best 41 = .ok (.invokevirtual 180, 3) := by decide +kernel
theorem dX6_best_44 : decode cX6_best 44 = .ok (.istore 5, 2) := by decide +kernel
theorem dX6_best_46 : decode cX6_best 46 = .ok (.iconst 2, 1) := by decide +kernel
theorem dX6_best_47 : decode cX6_best 47 = .ok (.istore 6, 2) := by decide +kernel
theorem dX6_best_49 : decode cX6_best 49 = .ok (.iload 6, 2) := by decide +kernel
theorem dX6_best_51 : decode cX6_best 51 = .ok (.iconst 4, 1) := by decide +kernel
theorem dX6_best_52 : decode cX6_best 52 = .ok (.if_icmp .gt 34, 3) := by decide +kernel
theorem dX6_best_55 : decode cX6_best 55 = .ok (.aload_n 0, 1) := by decide +kernel
theorem dX6_best_56 : decode cX6_best 56 = .ok (.iload_n 1, 1) := by decide +kernel
theorem dX6_best_57 : decode cX6_best 57 = .ok (.iload_n 2, 1) := by decide +kernel
theorem dX6_best_58 : decode cX6_best 58 = .ok (.iload 6, 2) := by decide +kernel
theorem dX6_best_60 : decode cX6_best 60 = .ok (.invokevirtual 180, 3) := by decide +kernel
theorem dX6_best_63 : decode cX6_best 63 = .ok (.istore 7, 2) := by decide +kernel
theorem dX6_best_65 : decode cX6_best 65 = .ok (.iload 7, 2) := by decide +kernel
theorem dX6_best_67 : decode cX6_best 67 = .ok (.iload 5, 2) := by decide +kernel
theorem dX6_best_69 : decode cX6_best 69 = .ok (.if_icmp .ge 11, 3) := by decide +kernel
theorem dX6_best_72 : decode cX6_best 72 = .ok (.iload 7, 2) := by decide +kernel
theorem dX6_best_74 : decode cX6_best 74 = .ok (.istore 5, 2) := by decide +kernel
theorem dX6_best_76 : decode cX6_best 76 = .ok (.iload 6, 2) := by decide +kernel
theorem dX6_best_78 : decode cX6_best 78 = .ok (.istore 4, 2) := by decide +kernel
theorem dX6_best_80 : decode cX6_best 80 = .ok (.iinc 6 1, 3) := by decide +kernel
theorem dX6_best_83 : decode cX6_best 83 = .ok (.goto (-34), 3) := by decide +kernel
theorem dX6_best_86 : decode cX6_best 86 = .ok (.iload_n 3, 1) := by decide +kernel
theorem dX6_best_87 : decode cX6_best 87 = .ok (.ifCond .ne 8, 3) := by decide +kernel
theorem dX6_best_90 : decode cX6_best 90 = .ok (.iload 4, 2) := by decide +kernel
theorem dX6_best_92 : decode cX6_best 92 = .ok (.goto 5, 3) := by decide +kernel
theorem dX6_best_95 : decode cX6_best 95 = .ok (.iload 5, 2) := by decide +kernel
theorem dX6_best_97 : decode cX6_best 97 = .ok (.ireturn, 1) := by decide +kernel
theorem dX6_judge_0 : decode cX6_judge 0 = .ok (.aload_n 0, 1) := by decide +kernel
theorem dX6_judge_1 : decode cX6_judge 1 = .ok (.getfield 41, 3) := by decide +kernel
theorem dX6_judge_4 : decode cX6_judge 4 = .ok (.iload_n 1, 1) := by decide +kernel
theorem dX6_judge_5 : decode cX6_judge 5 = .ok (.invokevirtual 186, 3) := by decide +kernel
theorem dX6_judge_8 : decode cX6_judge 8 = .ok (.ifCond .ne 6, 3) := by decide +kernel
theorem dX6_judge_11 : decode cX6_judge 11 = .ok (.bipush (-2), 2) := by decide +kernel
theorem dX6_judge_13 : decode cX6_judge 13 = .ok (.ireturn, 1) := by decide +kernel
theorem dX6_judge_14 : decode cX6_judge 14 = .ok (.aload_n 0, 1) := by decide +kernel
theorem dX6_judge_15 : decode cX6_judge 15 = .ok (.getfield 41, 3) := by decide +kernel
theorem dX6_judge_18 : decode cX6_judge 18 = .ok (.iload_n 1, 1) := by decide +kernel
theorem dX6_judge_19 : decode cX6_judge 19 = .ok (.invokevirtual 187, 3) := by decide +kernel
theorem dX6_judge_22 : decode cX6_judge 22 = .ok (.ifCond .eq 6, 3) := by decide +kernel
theorem dX6_judge_25 : decode cX6_judge 25 = .ok (.bipush (-11), 2) := by decide +kernel
theorem dX6_judge_27 : decode cX6_judge 27 = .ok (.ireturn, 1) := by decide +kernel
theorem dX6_judge_28 : decode cX6_judge 28 = .ok (.aload_n 0, 1) := by decide +kernel
theorem dX6_judge_29 : decode cX6_judge 29 = .ok (.getfield 41, 3) := by decide +kernel
theorem dX6_judge_32 : decode cX6_judge 32 = .ok (.getfield 190, 3) := by decide +kernel
theorem dX6_judge_35 : decode cX6_judge 35 = .ok (.iload_n 1, 1) := by decide +kernel
theorem dX6_judge_36 : decode cX6_judge 36 = .ok (.iaload, 1) := by decide +kernel
theorem dX6_judge_37 : decode cX6_judge 37 = .ok (.istore_n 2, 1) := by decide +kernel
theorem dX6_judge_38 : decode cX6_judge 38 = .ok (.iload_n 2, 1) := by decide +kernel
theorem dX6_judge_39 : decode cX6_judge 39 = .ok (.iconst 3, 1) := by decide +kernel
theorem dX6_judge_40 : decode cX6_judge 40 = .ok (.irem, 1) := by decide +kernel
theorem dX6_judge_41 : decode cX6_judge 41 = .ok (.ifCond .eq 6, 3) := by decide +kernel
theorem dX6_judge_44 : decode cX6_judge 44 = .ok (.bipush (-2), 2) := by decide +kernel
theorem dX6_judge_46 : decode cX6_judge 46 = .ok (.ireturn, 1) := by decide +kernel
theorem dX6_judge_47 : decode cX6_judge 47 = .ok (.aload_n 0, 1) := by decide +kernel
theorem dX6_judge_48 : decode cX6_judge 48 = .ok (.getfield 19, 3) := by decide +kernel
theorem dX6_judge_51 : decode cX6_judge 51 = .ok (.aload_n 0, 1) := by decide +kernel
theorem dX6_judge_52 : decode cX6_judge 52 = .ok (.getfield 10, 3) := by decide +kernel
theorem dX6_judge_55 : decode cX6_judge 55 = .ok (.invokevirtual 193, 3) := by decide +kernel
theorem dX6_judge_58 : decode cX6_judge 58 = .ok (.iconst 0, 1) := by decide +kernel
theorem dX6_judge_59 : decode cX6_judge 59 = .ok (.istore_n 3, 1) := by decide +kernel
theorem dX6_judge_60 : decode cX6_judge 60 = .ok (.iconst 0, 1) := by decide +kernel
theorem dX6_judge_61 : decode cX6_judge 61 = .ok (.istore 4, 2) := by decide +kernel
theorem dX6_judge_63 : decode cX6_judge 63 = .ok (.iload 4, 2) := by decide +kernel
theorem dX6_judge_65 : decode cX6_judge 65 = .ok (.iload_n 2, 1) := by decide +kernel
theorem dX6_judge_66 : decode cX6_judge 66 = .ok (.iconst 3, 1) := by decide +kernel
theorem dX6_judge_67 : decode cX6_judge 67 = .ok (.idiv, 1) := by decide +kernel
theorem dX6_judge_68 : decode cX6_judge 68 = .ok (.if_icmp .ge 38, 3) := by decide +kernel
theorem dX6_judge_71 : decode cX6_judge 71 = .ok (.aload_n 0, 1) := by decide +kernel
theorem dX6_judge_72 : decode cX6_judge 72 = .ok (.iload_n 1, 1) := by decide +kernel
theorem dX6_judge_73 : decode cX6_judge 73 = .ok (.iload 4, 2) := by decide +kernel
theorem dX6_judge_75 : decode cX6_judge 75 = .ok (.iconst 3, 1) := by decide +kernel
theorem dX6_judge_76 : decode cX6_judge 76 = .ok (.imul, 1) := by decide +kernel
theorem dX6_judge_77 : decode cX6_judge 77 = .ok (.iload_n 3, 1) := by decide +kernel
theorem dX6_judge_78 : decode cX6_judge 78 = .ok (.invokevirtual 197, 3) := by decide +kernel
theorem dX6_judge_81 : decode cX6_judge 81 = .ok (.ifCond .ne 6, 3) := by decide +kernel
theorem dX6_judge_84 : decode cX6_judge 84 = .ok (.iload 4, 2) := by decide +kernel
theorem dX6_judge_86 : decode cX6_judge 86 = .ok (.ireturn, 1) := by decide +kernel
theorem dX6_judge_87 : decode cX6_judge 87 = .ok (.aload_n 0, 1) := by decide +kernel
theorem dX6_judge_88 : decode cX6_judge 88 = .ok (.getfield 41, 3) := by decide +kernel
theorem dX6_judge_91 : decode cX6_judge 91 = .ok (.iload_n 1, 1) := by decide +kernel
theorem dX6_judge_92 : decode cX6_judge 92 = .ok (.iload 4, 2) := by decide +kernel
theorem dX6_judge_94 : decode cX6_judge 94 = .ok (.iconst 3, 1) := by decide +kernel
theorem dX6_judge_95 : decode cX6_judge 95 = .ok (.imul, 1) := by decide +kernel
theorem dX6_judge_96 : decode cX6_judge 96 = .ok (.invokevirtual 200, 3) := by decide +kernel
theorem dX6_judge_99 : decode cX6_judge 99 = .ok (.istore_n 3, 1) := by decide +kernel
theorem dX6_judge_100 : decode cX6_judge 100 = .ok (.iinc 4 1, 3) := by decide +kernel
theorem dX6_judge_103 : decode cX6_judge 103 = .ok (.goto (-40), 3) := by decide +kernel
theorem dX6_judge_106 : decode cX6_judge 106 = .ok (.iconst (-1), 1) := by decide +kernel
theorem dX6_judge_107 : decode cX6_judge 107 = .ok (.ireturn, 1) := by decide +kernel
theorem dX6_follows_0 : decode cX6_follows 0 = .ok (.aload_n 0, 1) := by decide +kernel
theorem dX6_follows_1 : decode cX6_follows 1 = .ok (.getfield 41, 3) := by decide +kernel
theorem dX6_follows_4 : decode cX6_follows 4 = .ok (.iload_n 1, 1) := by decide +kernel
theorem dX6_follows_5 : decode cX6_follows 5 = .ok (.iload_n 2, 1) := by decide +kernel
theorem dX6_follows_6 : decode cX6_follows 6 = .ok (.invokevirtual 200, 3) := by decide +kernel
theorem dX6_follows_9 : decode cX6_follows 9 = .ok (.istore 4, 2) := by decide +kernel
theorem dX6_follows_11 : decode cX6_follows 11 = .ok (.aload_n 0, 1) := by decide +kernel
theorem dX6_follows_12 : decode cX6_follows 12 = .ok (.getfield 41, 3) := by decide +kernel
theorem dX6_follows_15 : decode cX6_follows 15 = .ok (.iload_n 1, 1) := by decide +kernel
theorem dX6_follows_16 : decode cX6_follows 16 = .ok (.iload_n 2, 1) := by decide +kernel
theorem dX6_follows_17 : decode cX6_follows 17 = .ok (.iconst 1, 1) := by decide +kernel
theorem dX6_follows_18 : decode cX6_follows 18 = .ok (.iadd, 1) := by decide +kernel
theorem dX6_follows_19 : decode cX6_follows 19 = .ok (.invokevirtual 200, 3) := by decide +kernel
theorem dX6_follows_22 : decode cX6_follows 22 = .ok (.istore 5, 2) := by decide +kernel
theorem dX6_follows_24 : decode cX6_follows 24 = .ok (.aload_n 0, 1) := by decide +kernel
theorem dX6_follows_25 : decode cX6_follows 25 = .ok (.getfield 41, 3) := by decide +kernel
theorem dX6_follows_28 : decode cX6_follows 28 = .ok (.iload_n 1, 1) := by decide +kernel
theorem dX6_follows_29 : decode cX6_follows 29 = .ok (.iload_n 2, 1) := by decide +kernel
theorem dX6_follows_30 : decode cX6_follows 30 = .ok (.iconst 2, 1) := by decide +kernel
theorem dX6_follows_31 : decode cX6_follows 31 = .ok (.iadd, 1) := by decide +kernel
theorem dX6_follows_32 : decode cX6_follows 32 = .ok (.invokevirtual 200, 3) := by decide +kernel
theorem dX6_follows_35 : decode cX6_follows 35 = .ok (.istore 6, 2) := by decide +kernel
theorem dX6_follows_37 : decode cX6_follows 37 = .ok (.iload 4, 2) := by decide +kernel
theorem dX6_follows_39 : decode cX6_follows 39 = .ok (.iload_n 3, 1) := by decide +kernel
theorem dX6_follows_40 : decode cX6_follows 40 = .ok (.sipush 250, 3) := by decide +kernel
theorem dX6_follows_43 : decode cX6_follows 43 = .ok (.invokestatic 56, 3) := by decide +kernel
theorem dX6_follows_46 : decode cX6_follows 46 = .ok (.ifCond .eq 25, 3) := by decide +kernel
theorem dX6_follows_49 : decode cX6_follows 49 = .ok (.aload_n 0, 1) := by decide +kernel
theorem dX6_follows_50 : decode cX6_follows 50 = .ok (.getfield 19, 3) := by decide +kernel
theorem dX6_follows_53 : decode cX6_follows 53 = .ok (.iload 5, 2) := by decide +kernel
theorem dX6_follows_55 : decode cX6_follows 55 = .ok (.invokevirtual 75, 3) := by decide +kernel
theorem dX6_follows_58 : decode cX6_follows 58 = .ok (.ifCond .eq 13, 3) := by decide +kernel
theorem dX6_follows_61 : decode cX6_follows 61 = .ok (.iload 6, 2) := by decide +kernel
theorem dX6_follows_63 : decode cX6_follows 63 = .ok (.iconst 1, 1) := by decide +kernel
theorem dX6_follows_64 : decode cX6_follows 64 = .ok (.iconst 2, 1) := by decide +kernel
theorem dX6_follows_65 : decode cX6_follows 65 = .ok (.invokestatic 56, 3) := by decide +kernel
theorem dX6_follows_68 : decode cX6_follows 68 = .ok (.ifCond .ne 5, 3) := by decide +kernel
theorem dX6_follows_71 : decode cX6_follows 71 = .ok (.iconst 0, 1) := by decide +kernel
theorem dX6_follows_72 : decode cX6_follows 72 = .ok (.ireturn, 1) := by decide +kernel
theorem dX6_follows_73 : decode cX6_follows 73 = .ok (.aload_n 0, 1) := by decide +kernel
theorem dX6_follows_74 : decode cX6_follows 74 = .ok (.getfield 19, 3) := by decide +kernel
theorem dX6_follows_77 : decode cX6_follows 77 = .ok (.iload 4, 2) := by decide +kernel
theorem dX6_follows_79 : decode cX6_follows 79 = .ok (.iload_n 3, 1) := by decide +kernel
theorem dX6_follows_80 : decode cX6_follows 80 = .ok (.isub, 1) := by decide +kernel
theorem dX6_follows_81 : decode cX6_follows 81 = .ok (.invokevirtual 131, 3) := by decide +kernel
theorem dX6_follows_84 : decode cX6_follows 84 = .ok (.pop, 1) := by decide +kernel
theorem dX6_follows_85 : decode cX6_follows 85 = .ok (.aload_n 0, 1) := by decide +kernel
theorem dX6_follows_86 : decode cX6_follows 86 = .ok (.getfield 19, 3) := by decide +kernel
theorem dX6_follows_89 : decode cX6_follows 89 = .ok (.iload 5, 2) := by decide +kernel
theorem dX6_follows_91 : decode cX6_follows 91 = .ok (.iload 6, 2) := by decide +kernel
theorem dX6_follows_93 : decode cX6_follows 93 = .ok (.invokevirtual 127, 3) := by decide +kernel
theorem dX6_follows_96 : decode cX6_follows 96 = .ok (.ireturn, 1) := by decide +kernel
theorem dX6_drawn_0 : decode cX6_drawn 0 = .ok (.iload_n 1, 1) := by decide +kernel
theorem dX6_drawn_1 : decode cX6_drawn 1 = .ok (.istore_n 2, 1) := by decide +kernel
theorem dX6_drawn_2 : decode cX6_drawn 2 = .ok (.iconst 0, 1) := by decide +kernel
theorem dX6_drawn_3 : decode cX6_drawn 3 = .ok (.istore_n 3, 1) := by decide +kernel
theorem dX6_drawn_4 : decode cX6_drawn 4 = .ok (.iconst 0, 1) := by decide +kernel
theorem dX6_drawn_5 : decode cX6_drawn 5 = .ok (.istore 4, 2) := by decide +kernel
theorem dX6_drawn_7 : decode cX6_drawn 7 = .ok (.iload 4, 2) := by decide +kernel
theorem dX6_drawn_9 : decode cX6_drawn 9 = .ok (.aload_n 0, 1) := by decide +kernel
theorem dX6_drawn_10 : decode cX6_drawn 10 = .ok (.getfield 10, 3) := by decide +kernel
theorem dX6_drawn_13 : decode cX6_drawn 13 = .ok (.getfield 60, 3) := by decide +kernel
theorem dX6_drawn_16 : decode cX6_drawn 16 = .ok (.if_icmp .ge 75, 3) := by decide +kernel
theorem dX6_drawn_19 : decode cX6_drawn 19 = .ok (.iload_n 2, 1) := by decide +kernel
theorem dX6_drawn_20 : decode cX6_drawn 20 = .ok (.ldc 203, 2) := by decide +kernel
theorem dX6_drawn_22 : decode cX6_drawn 22 = .ok (.imul, 1) := by decide +kernel
theorem dX6_drawn_23 : decode cX6_drawn 23 = .ok (.sipush 12345, 3) := by decide +kernel
theorem dX6_drawn_26 : decode cX6_drawn 26 = .ok (.iadd, 1) := by decide +kernel
theorem dX6_drawn_27 : decode cX6_drawn 27 = .ok (.istore_n 2, 1) := by decide +kernel
theorem dX6_drawn_28 : decode cX6_drawn 28 = .ok (.aload_n 0, 1) := by decide +kernel
theorem dX6_drawn_29 : decode cX6_drawn 29 = .ok (.getfield 10, 3) := by decide +kernel
theorem dX6_drawn_32 : decode cX6_drawn 32 = .ok (.getfield 97, 3) := by decide +kernel
theorem dX6_drawn_35 : decode cX6_drawn 35 = .ok (.iload 4, 2) := by decide +kernel
theorem dX6_drawn_37 : decode cX6_drawn 37 = .ok (.iaload, 1) := by decide +kernel
theorem dX6_drawn_38 : decode cX6_drawn 38 = .ok (.ifCond .ne 12, 3) := by decide +kernel
theorem dX6_drawn_41 : decode cX6_drawn 41 = .ok (.iload_n 2, 1) := by decide +kernel
theorem dX6_drawn_42 : decode cX6_drawn 42 = .ok (.bipush 11, 2) := by decide +kernel
theorem dX6_drawn_44 : decode cX6_drawn 44 = .ok (.iushr, 1) := by decide +kernel
theorem dX6_drawn_45 : decode cX6_drawn 45 = .ok (.iconst 3, 1) := by decide +kernel
theorem dX6_drawn_46 : decode cX6_drawn 46 = .ok (.irem, 1) := by decide +kernel
theorem dX6_drawn_47 : decode cX6_drawn 47 = .ok (.goto 13, 3) := by decide +kernel
theorem dX6_drawn_50 : decode cX6_drawn 50 = .ok (.aload_n 0, 1) := by decide +kernel
theorem dX6_drawn_51 : decode cX6_drawn 51 = .ok (.getfield 10, 3) := by decide +kernel
theorem dX6_drawn_54 : decode cX6_drawn 54 = .ok (.getfield 97, 3) := by decide +kernel
theorem dX6_drawn_57 : decode cX6_drawn 57 = .ok (.iload 4, 2) := by decide +kernel
theorem dX6_drawn_59 : decode cX6_drawn 59 = .ok (.iaload, 1) := by decide +kernel
theorem dX6_drawn_60 : decode cX6_drawn 60 = .ok (.istore 5, 2) := by decide +kernel
theorem dX6_drawn_62 : decode cX6_drawn 62 = .ok (.iload_n 3, 1) := by decide +kernel
theorem dX6_drawn_63 : decode cX6_drawn 63 = .ok (.aload_n 0, 1) := by decide +kernel
theorem dX6_drawn_64 : decode cX6_drawn 64 = .ok (.getfield 10, 3) := by decide +kernel
theorem dX6_drawn_67 : decode cX6_drawn 67 = .ok (.iload 4, 2) := by decide +kernel
theorem dX6_drawn_69 : decode cX6_drawn 69 = .ok (.iload 5, 2) := by decide +kernel
theorem dX6_drawn_71 : decode cX6_drawn 71 = .ok (.aload_n 0, 1) := by decide +kernel
theorem dX6_drawn_72 : decode cX6_drawn 72 = .ok (.getfield 10, 3) := by decide +kernel
theorem dX6_drawn_75 : decode cX6_drawn 75 = .ok (.getfield 91, 3) := by decide +kernel
theorem dX6_drawn_78 : decode cX6_drawn 78 = .ok (.invokevirtual 134, 3) := by decide +kernel
theorem dX6_drawn_81 : decode cX6_drawn 81 = .ok (.invokestatic 183, 3) := by decide +kernel
theorem dX6_drawn_84 : decode cX6_drawn 84 = .ok (.istore_n 3, 1) := by decide +kernel
theorem dX6_drawn_85 : decode cX6_drawn 85 = .ok (.iinc 4 1, 3) := by decide +kernel
theorem dX6_drawn_88 : decode cX6_drawn 88 = .ok (.goto (-81), 3) := by decide +kernel
theorem dX6_drawn_91 : decode cX6_drawn 91 = .ok (.iload_n 3, 1) := by decide +kernel
theorem dX6_drawn_92 : decode cX6_drawn 92 = .ok (.ireturn, 1) := by decide +kernel
theorem dX6_chance_0 : decode cX6_chance 0 = .ok (.iload_n 2, 1) := by decide +kernel
theorem dX6_chance_1 : decode cX6_chance 1 = .ok (.iconst 1, 1) := by decide +kernel
theorem dX6_chance_2 : decode cX6_chance 2 = .ok (.bipush 20, 2) := by decide +kernel
theorem dX6_chance_4 : decode cX6_chance 4 = .ok (.invokestatic 56, 3) := by decide +kernel
theorem dX6_chance_7 : decode cX6_chance 7 = .ok (.ifCond .eq 24, 3) := by decide +kernel
theorem dX6_chance_10 : decode cX6_chance 10 = .ok (.iload_n 3, 1) := by decide +kernel
theorem dX6_chance_11 : decode cX6_chance 11 = .ok (.iconst 0, 1) := by decide +kernel
theorem dX6_chance_12 : decode cX6_chance 12 = .ok (.sipush 250, 3) := by decide +kernel
theorem dX6_chance_15 : decode cX6_chance 15 = .ok (.invokestatic 56, 3) := by decide +kernel
theorem dX6_chance_18 : decode cX6_chance 18 = .ok (.ifCond .eq 13, 3) := by decide +kernel
theorem dX6_chance_21 : decode cX6_chance 21 = .ok (.iload 4, 2) := by decide +kernel
theorem dX6_chance_23 : decode cX6_chance 23 = .ok (.iconst 0, 1) := by decide +kernel
theorem dX6_chance_24 : decode cX6_chance 24 = .ok (.iconst 1, 1) := by decide +kernel
theorem dX6_chance_25 : decode cX6_chance 25 = .ok (.invokestatic 56, 3) := by decide +kernel
theorem dX6_chance_28 : decode cX6_chance 28 = .ok (.ifCond .ne 7, 3) := by decide +kernel
theorem dX6_chance_31 : decode cX6_chance 31 = .ok (.ldc2_w 173, 3) := by decide +kernel
theorem dX6_chance_34 : decode cX6_chance 34 = .ok (.lreturn, 1) := by decide +kernel
theorem dX6_chance_35 : decode cX6_chance 35 = .ok (.iconst 0, 1) := by decide +kernel
theorem dX6_chance_36 : decode cX6_chance 36 = .ok (.istore 5, 2) := by decide +kernel
theorem dX6_chance_38 : decode cX6_chance 38 = .ok (.iconst 0, 1) := by decide +kernel
theorem dX6_chance_39 : decode cX6_chance 39 = .ok (.istore 6, 2) := by decide +kernel
theorem dX6_chance_41 : decode cX6_chance 41 = .ok (.iload 6, 2) := by decide +kernel
theorem dX6_chance_43 : decode cX6_chance 43 = .ok (.iload_n 2, 1) := by decide +kernel
theorem dX6_chance_44 : decode cX6_chance 44 = .ok (.if_icmp .ge 24, 3) := by decide +kernel
theorem dX6_chance_47 : decode cX6_chance 47 = .ok (.aload_n 0, 1) := by decide +kernel
theorem dX6_chance_48 : decode cX6_chance 48 = .ok (.iload_n 1, 1) := by decide +kernel
theorem dX6_chance_49 : decode cX6_chance 49 = .ok (.iload 6, 2) := by decide +kernel
theorem dX6_chance_51 : decode cX6_chance 51 = .ok (.iadd, 1) := by decide +kernel
theorem dX6_chance_52 : decode cX6_chance 52 = .ok (.invokevirtual 204, 3) := by decide +kernel
theorem dX6_chance_55 : decode cX6_chance 55 = .ok (.iload_n 3, 1) := by decide +kernel
theorem dX6_chance_56 : decode cX6_chance 56 = .ok (.if_icmp .ne 6, 3) := by decide +kernel
theorem dX6_chance_59 : decode cX6_chance 59 = .ok (.iinc 5 1, 3) := by decide +kernel
theorem dX6_chance_62 : decode cX6_chance 62 = .ok (.iinc 6 1, 3) := by decide +kernel
theorem dX6_chance_65 : decode cX6_chance 65 = .ok (.goto (-24), 3) := by decide +kernel
theorem dX6_chance_68 : decode cX6_chance 68 = .ok (.iload 4, 2) := by decide +kernel
theorem dX6_chance_70 : decode cX6_chance 70 = .ok (.ifCond .ne 8, 3) := by decide +kernel
theorem dX6_chance_73 : decode cX6_chance 73 = .ok (.iload 5, 2) := by decide +kernel
theorem dX6_chance_75 : decode cX6_chance 75 = .ok (.goto 4, 3) := by decide +kernel
theorem dX6_chance_78 : decode cX6_chance 78 = .ok (.iload_n 2, 1) := by decide +kernel
theorem dX6_chance_79 : decode cX6_chance 79 = .ok (.iload 5, 2) := by decide +kernel
theorem dX6_chance_81 : decode cX6_chance 81 = .ok (.iload_n 2, 1) := by decide +kernel
theorem dX6_chance_82 : decode cX6_chance 82 = .ok (.invokestatic 207, 3) := by decide +kernel
theorem dX6_chance_85 : decode cX6_chance 85 = .ok (.i2l, 1) := by decide +kernel
theorem dX6_chance_86 : decode cX6_chance 86 = .ok (.lreturn, 1) := by decide +kernel
theorem dX6_inLowestTerms_0 : decode cX6_inLowestTerms 0 = .ok (.iload_n 2, 1) := by decide +kernel
theorem dX6_inLowestTerms_1 : decode cX6_inLowestTerms 1 = .ok (.istore_n 3, 1) := by decide +kernel
theorem dX6_inLowestTerms_2 : decode cX6_inLowestTerms 2 = .ok (.iload_n 3, 1) := by decide +kernel
theorem dX6_inLowestTerms_3 : decode cX6_inLowestTerms 3 = .ok (.iconst 1, 1) := by decide +kernel
theorem dX6_inLowestTerms_4 : decode cX6_inLowestTerms 4 = .ok (.if_icmp .le 25, 3) := by decide +kernel
theorem dX6_inLowestTerms_7 : decode cX6_inLowestTerms 7 = .ok (.iload_n 1, 1) := by decide +kernel
theorem dX6_inLowestTerms_8 : decode cX6_inLowestTerms 8 = .ok (.iload_n 3, 1) := by decide +kernel
theorem dX6_inLowestTerms_9 : decode cX6_inLowestTerms 9 = .ok (.irem, 1) := by decide +kernel
theorem dX6_inLowestTerms_10 : decode cX6_inLowestTerms 10 = .ok (.ifCond .ne 13, 3) := by decide +kernel
theorem dX6_inLowestTerms_13 : decode cX6_inLowestTerms 13 = .ok (.iload_n 2, 1) := by decide +kernel
theorem dX6_inLowestTerms_14 : decode cX6_inLowestTerms 14 = .ok (.iload_n 3, 1) := by decide +kernel
theorem dX6_inLowestTerms_15 : decode cX6_inLowestTerms 15 = .ok (.irem, 1) := by decide +kernel
theorem dX6_inLowestTerms_16 : decode cX6_inLowestTerms 16 = .ok (.ifCond .ne 7, 3) := by decide +kernel
theorem dX6_inLowestTerms_19 : decode cX6_inLowestTerms 19 = .ok (.iload_n 0, 1) := by decide +kernel
theorem dX6_inLowestTerms_20 : decode cX6_inLowestTerms 20 = .ok (.iload_n 3, 1) := by decide +kernel
theorem dX6_inLowestTerms_21 : decode cX6_inLowestTerms 21 = .ok (.idiv, 1) := by decide +kernel
theorem dX6_inLowestTerms_22 : decode cX6_inLowestTerms 22 = .ok (.ireturn, 1) := by decide +kernel
theorem dX6_inLowestTerms_23 : decode cX6_inLowestTerms 23 = .ok (.iinc 3 (-1), 3) := by decide +kernel
theorem dX6_inLowestTerms_26 : decode cX6_inLowestTerms 26 = .ok (.goto (-24), 3) := by decide +kernel
theorem dX6_inLowestTerms_29 : decode cX6_inLowestTerms 29 = .ok (.iload_n 0, 1) := by decide +kernel
theorem dX6_inLowestTerms_30 : decode cX6_inLowestTerms 30 = .ok (.ireturn, 1) := by decide +kernel
theorem dX6_image_0 : decode cX6_image 0 = .ok (.aload_n 0, 1) := by decide +kernel
theorem dX6_image_1 : decode cX6_image 1 = .ok (.getfield 16, 3) := by decide +kernel
theorem dX6_image_4 : decode cX6_image 4 = .ok (.aload_n 0, 1) := by decide +kernel
theorem dX6_image_5 : decode cX6_image 5 = .ok (.getfield 10, 3) := by decide +kernel
theorem dX6_image_8 : decode cX6_image 8 = .ok (.invokevirtual 193, 3) := by decide +kernel
theorem dX6_image_11 : decode cX6_image 11 = .ok (.aload_n 0, 1) := by decide +kernel
theorem dX6_image_12 : decode cX6_image 12 = .ok (.iconst 1, 1) := by decide +kernel
theorem dX6_image_13 : decode cX6_image 13 = .ok (.putfield 52, 3) := by decide +kernel
theorem dX6_image_16 : decode cX6_image 16 = .ok (.aload_n 0, 1) := by decide +kernel
theorem dX6_image_17 : decode cX6_image 17 = .ok (.getfield 16, 3) := by decide +kernel
theorem dX6_image_20 : decode cX6_image 20 = .ok (.getfield 60, 3) := by decide +kernel
theorem dX6_image_23 : decode cX6_image 23 = .ok (.ireturn, 1) := by decide +kernel
theorem dX6_back_0 : decode cX6_back 0 = .ok (.aload_n 0, 1) := by decide +kernel
theorem dX6_back_1 : decode cX6_back 1 = .ok (.getfield 52, 3) := by decide +kernel
theorem dX6_back_4 : decode cX6_back 4 = .ok (.ifCond .ne 6, 3) := by decide +kernel
theorem dX6_back_7 : decode cX6_back 7 = .ok (.bipush (-3), 2) := by decide +kernel
theorem dX6_back_9 : decode cX6_back 9 = .ok (.ireturn, 1) := by decide +kernel
theorem dX6_back_10 : decode cX6_back 10 = .ok (.aload_n 0, 1) := by decide +kernel
theorem dX6_back_11 : decode cX6_back 11 = .ok (.getfield 10, 3) := by decide +kernel
theorem dX6_back_14 : decode cX6_back 14 = .ok (.aload_n 0, 1) := by decide +kernel
theorem dX6_back_15 : decode cX6_back 15 = .ok (.getfield 16, 3) := by decide +kernel
theorem dX6_back_18 : decode cX6_back 18 = .ok (.invokevirtual 193, 3) := by decide +kernel
theorem dX6_back_21 : decode cX6_back 21 = .ok (.aload_n 0, 1) := by decide +kernel
theorem dX6_back_22 : decode cX6_back 22 = .ok (.getfield 34, 3) := by decide +kernel
theorem dX6_back_25 : decode cX6_back 25 = .ok (.invokevirtual 64, 3) := by decide +kernel
theorem dX6_back_28 : decode cX6_back 28 = .ok (.aload_n 0, 1) := by decide +kernel
theorem dX6_back_29 : decode cX6_back 29 = .ok (.getfield 10, 3) := by decide +kernel
theorem dX6_back_32 : decode cX6_back 32 = .ok (.getfield 60, 3) := by decide +kernel
theorem dX6_back_35 : decode cX6_back 35 = .ok (.ireturn, 1) := by decide +kernel
theorem dX6_count_0 : decode cX6_count 0 = .ok (.iload_n 1, 1) := by decide +kernel
theorem dX6_count_1 : decode cX6_count 1 = .ok (.tableswitch 111 0 7 #[47, 55, 63, 71, 79, 87, 95, 103], 47) := by decide +kernel
theorem dX6_count_48 : decode cX6_count 48 = .ok (.aload_n 0, 1) := by decide +kernel
theorem dX6_count_49 : decode cX6_count 49 = .ok (.getfield 10, 3) := by decide +kernel
theorem dX6_count_52 : decode cX6_count 52 = .ok (.getfield 60, 3) := by decide +kernel
theorem dX6_count_55 : decode cX6_count 55 = .ok (.ireturn, 1) := by decide +kernel
theorem dX6_count_56 : decode cX6_count 56 = .ok (.aload_n 0, 1) := by decide +kernel
theorem dX6_count_57 : decode cX6_count 57 = .ok (.getfield 10, 3) := by decide +kernel
theorem dX6_count_60 : decode cX6_count 60 = .ok (.invokevirtual 210, 3) := by decide +kernel
theorem dX6_count_63 : decode cX6_count 63 = .ok (.ireturn, 1) := by decide +kernel
theorem dX6_count_64 : decode cX6_count 64 = .ok (.aload_n 0, 1) := by decide +kernel
theorem dX6_count_65 : decode cX6_count 65 = .ok (.getfield 10, 3) := by decide +kernel
theorem dX6_count_68 : decode cX6_count 68 = .ok (.getfield 91, 3) := by decide +kernel
theorem dX6_count_71 : decode cX6_count 71 = .ok (.ireturn, 1) := by decide +kernel
theorem dX6_count_72 : decode cX6_count 72 = .ok (.aload_n 0, 1) := by decide +kernel
theorem dX6_count_73 : decode cX6_count 73 = .ok (.getfield 10, 3) := by decide +kernel
theorem dX6_count_76 : decode cX6_count 76 = .ok (.getfield 94, 3) := by decide +kernel
theorem dX6_count_79 : decode cX6_count 79 = .ok (.ireturn, 1) := by decide +kernel
theorem dX6_count_80 : decode cX6_count 80 = .ok (.aload_n 0, 1) := by decide +kernel
theorem dX6_count_81 : decode cX6_count 81 = .ok (.getfield 25, 3) := by decide +kernel
theorem dX6_count_84 : decode cX6_count 84 = .ok (.getfield 123, 3) := by decide +kernel
theorem dX6_count_87 : decode cX6_count 87 = .ok (.ireturn, 1) := by decide +kernel
theorem dX6_count_88 : decode cX6_count 88 = .ok (.aload_n 0, 1) := by decide +kernel
theorem dX6_count_89 : decode cX6_count 89 = .ok (.getfield 25, 3) := by decide +kernel
theorem dX6_count_92 : decode cX6_count 92 = .ok (.getfield 213, 3) := by decide +kernel
theorem dX6_count_95 : decode cX6_count 95 = .ok (.ireturn, 1) := by decide +kernel
theorem dX6_count_96 : decode cX6_count 96 = .ok (.aload_n 0, 1) := by decide +kernel
theorem dX6_count_97 : decode cX6_count 97 = .ok (.getfield 10, 3) := by decide +kernel
theorem dX6_count_100 : decode cX6_count 100 = .ok (.getfield 124, 3) := by decide +kernel
theorem dX6_count_103 : decode cX6_count 103 = .ok (.ireturn, 1) := by decide +kernel
theorem dX6_count_104 : decode cX6_count 104 = .ok (.aload_n 0, 1) := by decide +kernel
theorem dX6_count_105 : decode cX6_count 105 = .ok (.getfield 10, 3) := by decide +kernel
theorem dX6_count_108 : decode cX6_count 108 = .ok (.invokevirtual 215, 3) := by decide +kernel
theorem dX6_count_111 : decode cX6_count 111 = .ok (.ireturn, 1) := by decide +kernel
theorem dX6_count_112 : decode cX6_count 112 = .ok (.bipush (-2), 2) := by decide +kernel
theorem dX6_count_114 : decode cX6_count 114 = .ok (.ireturn, 1) := by decide +kernel
theorem dX6_sheet_0 : decode cX6_sheet 0 = .ok (.aload_n 0, 1) := by decide +kernel
theorem dX6_sheet_1 : decode cX6_sheet 1 = .ok (.getfield 41, 3) := by decide +kernel
theorem dX6_sheet_4 : decode cX6_sheet 4 = .ok (.iload_n 1, 1) := by decide +kernel
theorem dX6_sheet_5 : decode cX6_sheet 5 = .ok (.invokevirtual 186, 3) := by decide +kernel
theorem dX6_sheet_8 : decode cX6_sheet 8 = .ok (.ifCond .eq 12, 3) := by decide +kernel
theorem dX6_sheet_11 : decode cX6_sheet 11 = .ok (.iload_n 2, 1) := by decide +kernel
theorem dX6_sheet_12 : decode cX6_sheet 12 = .ok (.iconst (-1), 1) := by decide +kernel
theorem dX6_sheet_13 : decode cX6_sheet 13 = .ok (.iconst 2, 1) := by decide +kernel
theorem dX6_sheet_14 : decode cX6_sheet 14 = .ok (.invokestatic 56, 3) := by decide +kernel
theorem dX6_sheet_17 : decode cX6_sheet 17 = .ok (.ifCond .ne 6, 3) := by decide +kernel
theorem dX6_sheet_20 : decode cX6_sheet 20 = .ok (.bipush (-2), 2) := by decide +kernel
theorem dX6_sheet_22 : decode cX6_sheet 22 = .ok (.ireturn, 1) := by decide +kernel
theorem dX6_sheet_23 : decode cX6_sheet 23 = .ok (.iload_n 2, 1) := by decide +kernel
theorem dX6_sheet_24 : decode cX6_sheet 24 = .ok (.iconst (-1), 1) := by decide +kernel
theorem dX6_sheet_25 : decode cX6_sheet 25 = .ok (.if_icmp .eq 12, 3) := by decide +kernel
theorem dX6_sheet_28 : decode cX6_sheet 28 = .ok (.iload_n 3, 1) := by decide +kernel
theorem dX6_sheet_29 : decode cX6_sheet 29 = .ok (.bipush 40, 2) := by decide +kernel
theorem dX6_sheet_31 : decode cX6_sheet 31 = .ok (.if_icmp .le 6, 3) := by decide +kernel
theorem dX6_sheet_34 : decode cX6_sheet 34 = .ok (.bipush (-2), 2) := by decide +kernel
theorem dX6_sheet_36 : decode cX6_sheet 36 = .ok (.ireturn, 1) := by decide +kernel
theorem dX6_sheet_37 : decode cX6_sheet 37 = .ok (.iload_n 2, 1) := by decide +kernel
theorem dX6_sheet_38 : decode cX6_sheet 38 = .ok (.iconst (-1), 1) := by decide +kernel
theorem dX6_sheet_39 : decode cX6_sheet 39 = .ok (.if_icmp .eq 10, 3) := by decide +kernel
theorem dX6_sheet_42 : decode cX6_sheet 42 = .ok (.iload_n 3, 1) := by decide +kernel
theorem dX6_sheet_43 : decode cX6_sheet 43 = .ok (.ifCond .ge 6, 3) := by decide +kernel
theorem dX6_sheet_46 : decode cX6_sheet 46 = .ok (.bipush (-14), 2) := by decide +kernel
theorem dX6_sheet_48 : decode cX6_sheet 48 = .ok (.ireturn, 1) := by decide +kernel
theorem dX6_sheet_49 : decode cX6_sheet 49 = .ok (.aload_n 0, 1) := by decide +kernel
theorem dX6_sheet_50 : decode cX6_sheet 50 = .ok (.getfield 41, 3) := by decide +kernel
theorem dX6_sheet_53 : decode cX6_sheet 53 = .ok (.iload_n 1, 1) := by decide +kernel
theorem dX6_sheet_54 : decode cX6_sheet 54 = .ok (.iload_n 2, 1) := by decide +kernel
theorem dX6_sheet_55 : decode cX6_sheet 55 = .ok (.iload_n 3, 1) := by decide +kernel
theorem dX6_sheet_56 : decode cX6_sheet 56 = .ok (.invokevirtual 218, 3) := by decide +kernel
theorem dX6_sheet_59 : decode cX6_sheet 59 = .ok (.iconst 1, 1) := by decide +kernel
theorem dX6_sheet_60 : decode cX6_sheet 60 = .ok (.ireturn, 1) := by decide +kernel
theorem dX6_cell_0 : decode cX6_cell 0 = .ok (.aload_n 0, 1) := by decide +kernel
theorem dX6_cell_1 : decode cX6_cell 1 = .ok (.getfield 41, 3) := by decide +kernel
theorem dX6_cell_4 : decode cX6_cell 4 = .ok (.iload_n 1, 1) := by decide +kernel
theorem dX6_cell_5 : decode cX6_cell 5 = .ok (.invokevirtual 186, 3) := by decide +kernel
theorem dX6_cell_8 : decode cX6_cell 8 = .ok (.ifCond .ne 6, 3) := by decide +kernel
theorem dX6_cell_11 : decode cX6_cell 11 = .ok (.bipush (-2), 2) := by decide +kernel
theorem dX6_cell_13 : decode cX6_cell 13 = .ok (.ireturn, 1) := by decide +kernel
theorem dX6_cell_14 : decode cX6_cell 14 = .ok (.aload_n 0, 1) := by decide +kernel
theorem dX6_cell_15 : decode cX6_cell 15 = .ok (.getfield 41, 3) := by decide +kernel
theorem dX6_cell_18 : decode cX6_cell 18 = .ok (.iload_n 1, 1) := by decide +kernel
theorem dX6_cell_19 : decode cX6_cell 19 = .ok (.invokevirtual 187, 3) := by decide +kernel
theorem dX6_cell_22 : decode cX6_cell 22 = .ok (.ifCond .eq 6, 3) := by decide +kernel
theorem dX6_cell_25 : decode cX6_cell 25 = .ok (.bipush (-11), 2) := by decide +kernel
theorem dX6_cell_27 : decode cX6_cell 27 = .ok (.ireturn, 1) := by decide +kernel
theorem dX6_cell_28 : decode cX6_cell 28 = .ok (.aload_n 0, 1) := by decide +kernel
theorem dX6_cell_29 : decode cX6_cell 29 = .ok (.getfield 41, 3) := by decide +kernel
theorem dX6_cell_32 : decode cX6_cell 32 = .ok (.iload_n 1, 1) := by decide +kernel
theorem dX6_cell_33 : decode cX6_cell 33 = .ok (.iload_n 2, 1) := by decide +kernel
theorem dX6_cell_34 : decode cX6_cell 34 = .ok (.iconst 1, 1) := by decide +kernel
theorem dX6_cell_35 : decode cX6_cell 35 = .ok (.invokevirtual 222, 3) := by decide +kernel
theorem dX6_cell_38 : decode cX6_cell 38 = .ok (.ifCond .ne 6, 3) := by decide +kernel
theorem dX6_cell_41 : decode cX6_cell 41 = .ok (.bipush (-12), 2) := by decide +kernel
theorem dX6_cell_43 : decode cX6_cell 43 = .ok (.ireturn, 1) := by decide +kernel
theorem dX6_cell_44 : decode cX6_cell 44 = .ok (.aload_n 0, 1) := by decide +kernel
theorem dX6_cell_45 : decode cX6_cell 45 = .ok (.getfield 41, 3) := by decide +kernel
theorem dX6_cell_48 : decode cX6_cell 48 = .ok (.iload_n 1, 1) := by decide +kernel
theorem dX6_cell_49 : decode cX6_cell 49 = .ok (.iload_n 2, 1) := by decide +kernel
theorem dX6_cell_50 : decode cX6_cell 50 = .ok (.iload_n 3, 1) := by decide +kernel
theorem dX6_cell_51 : decode cX6_cell 51 = .ok (.invokevirtual 225, 3) := by decide +kernel
theorem dX6_cell_54 : decode cX6_cell 54 = .ok (.iconst 1, 1) := by decide +kernel
theorem dX6_cell_55 : decode cX6_cell 55 = .ok (.ireturn, 1) := by decide +kernel
theorem dX6_copy_0 : decode cX6_copy 0 = .ok (.aload_n 0, 1) := by decide +kernel
theorem dX6_copy_1 : decode cX6_copy 1 = .ok (.getfield 41, 3) := by decide +kernel
theorem dX6_copy_4 : decode cX6_copy 4 = .ok (.iload_n 1, 1) := by decide +kernel
theorem dX6_copy_5 : decode cX6_copy 5 = .ok (.invokevirtual 186, 3) := by decide +kernel
theorem dX6_copy_8 : decode cX6_copy 8 = .ok (.ifCond .eq 14, 3) := by decide +kernel
theorem dX6_copy_11 : decode cX6_copy 11 = .ok (.aload_n 0, 1) := by decide +kernel
theorem dX6_copy_12 : decode cX6_copy 12 = .ok (.getfield 41, 3) := by decide +kernel
theorem dX6_copy_15 : decode cX6_copy 15 = .ok (.iload_n 3, 1) := by decide +kernel
theorem dX6_copy_16 : decode cX6_copy 16 = .ok (.invokevirtual 186, 3) := by decide +kernel
theorem dX6_copy_19 : decode cX6_copy 19 = .ok (.ifCond .ne 6, 3) := by decide +kernel
theorem dX6_copy_22 : decode cX6_copy 22 = .ok (.bipush (-2), 2) := by decide +kernel
theorem dX6_copy_24 : decode cX6_copy 24 = .ok (.ireturn, 1) := by decide +kernel
theorem dX6_copy_25 : decode cX6_copy 25 = .ok (.aload_n 0, 1) := by decide +kernel
theorem dX6_copy_26 : decode cX6_copy 26 = .ok (.getfield 41, 3) := by decide +kernel
theorem dX6_copy_29 : decode cX6_copy 29 = .ok (.iload_n 1, 1) := by decide +kernel
theorem dX6_copy_30 : decode cX6_copy 30 = .ok (.invokevirtual 187, 3) := by decide +kernel
theorem dX6_copy_33 : decode cX6_copy 33 = .ok (.ifCond .ne 14, 3) := by decide +kernel
theorem dX6_copy_36 : decode cX6_copy 36 = .ok (.aload_n 0, 1) := by decide +kernel
theorem dX6_copy_37 : decode cX6_copy 37 = .ok (.getfield 41, 3) := by decide +kernel
theorem dX6_copy_40 : decode cX6_copy 40 = .ok (.iload_n 3, 1) := by decide +kernel
theorem dX6_copy_41 : decode cX6_copy 41 = .ok (.invokevirtual 187, 3) := by decide +kernel
theorem dX6_copy_44 : decode cX6_copy 44 = .ok (.ifCond .eq 6, 3) := by decide +kernel
theorem dX6_copy_47 : decode cX6_copy 47 = .ok (.bipush (-11), 2) := by decide +kernel
theorem dX6_copy_49 : decode cX6_copy 49 = .ok (.ireturn, 1) := by decide +kernel
theorem dX6_copy_50 : decode cX6_copy 50 = .ok (.aload_n 0, 1) := by decide +kernel
theorem dX6_copy_51 : decode cX6_copy 51 = .ok (.getfield 41, 3) := by decide +kernel
theorem dX6_copy_54 : decode cX6_copy 54 = .ok (.getfield 228, 3) := by decide +kernel
theorem dX6_copy_57 : decode cX6_copy 57 = .ok (.iload_n 1, 1) := by decide +kernel
theorem dX6_copy_58 : decode cX6_copy 58 = .ok (.iaload, 1) := by decide +kernel
theorem dX6_copy_59 : decode cX6_copy 59 = .ok (.aload_n 0, 1) := by decide +kernel
theorem dX6_copy_60 : decode cX6_copy 60 = .ok (.getfield 41, 3) := by decide +kernel
theorem dX6_copy_63 : decode cX6_copy 63 = .ok (.getfield 228, 3) := by decide +kernel
theorem dX6_copy_66 : decode cX6_copy 66 = .ok (.iload_n 3, 1) := by decide +kernel
theorem dX6_copy_67 : decode cX6_copy 67 = .ok (.iaload, 1) := by decide +kernel
theorem dX6_copy_68 : decode cX6_copy 68 = .ok (.if_icmp .eq 6, 3) := by decide +kernel
theorem dX6_copy_71 : decode cX6_copy 71 = .ok (.bipush (-13), 2) := by decide +kernel
theorem dX6_copy_73 : decode cX6_copy 73 = .ok (.ireturn, 1) := by decide +kernel
theorem dX6_copy_74 : decode cX6_copy 74 = .ok (.aload_n 0, 1) := by decide +kernel
theorem dX6_copy_75 : decode cX6_copy 75 = .ok (.getfield 41, 3) := by decide +kernel
theorem dX6_copy_78 : decode cX6_copy 78 = .ok (.iload_n 1, 1) := by decide +kernel
theorem dX6_copy_79 : decode cX6_copy 79 = .ok (.iload_n 2, 1) := by decide +kernel
theorem dX6_copy_80 : decode cX6_copy 80 = .ok (.iload 5, 2) := by decide +kernel
theorem dX6_copy_82 : decode cX6_copy 82 = .ok (.invokevirtual 222, 3) := by decide +kernel
theorem dX6_copy_85 : decode cX6_copy 85 = .ok (.ifCond .eq 18, 3) := by decide +kernel
theorem dX6_copy_88 : decode cX6_copy 88 = .ok (.aload_n 0, 1) := by decide +kernel
theorem dX6_copy_89 : decode cX6_copy 89 = .ok (.getfield 41, 3) := by decide +kernel
theorem dX6_copy_92 : decode cX6_copy 92 = .ok (.iload_n 3, 1) := by decide +kernel
theorem dX6_copy_93 : decode cX6_copy 93 = .ok (.iload 4, 2) := by decide +kernel
theorem dX6_copy_95 : decode cX6_copy 95 = .ok (.iload 5, 2) := by decide +kernel
theorem dX6_copy_97 : decode cX6_copy 97 = .ok (.invokevirtual 222, 3) := by decide +kernel
theorem dX6_copy_100 : decode cX6_copy 100 = .ok (.ifCond .ne 6, 3) := by decide +kernel
theorem dX6_copy_103 : decode cX6_copy 103 = .ok (.bipush (-12), 2) := by decide +kernel
theorem dX6_copy_105 : decode cX6_copy 105 = .ok (.ireturn, 1) := by decide +kernel
theorem dX6_copy_106 : decode cX6_copy 106 = .ok (.aload_n 0, 1) := by decide +kernel
theorem dX6_copy_107 : decode cX6_copy 107 = .ok (.getfield 41, 3) := by decide +kernel
theorem dX6_copy_110 : decode cX6_copy 110 = .ok (.getfield 231, 3) := by decide +kernel
theorem dX6_copy_113 : decode cX6_copy 113 = .ok (.iload_n 1, 1) := by decide +kernel
theorem dX6_copy_114 : decode cX6_copy 114 = .ok (.aaload, 1) := by decide +kernel
theorem dX6_copy_115 : decode cX6_copy 115 = .ok (.iload_n 2, 1) := by decide +kernel
theorem dX6_copy_116 : decode cX6_copy 116 = .ok (.aload_n 0, 1) := by decide +kernel
theorem dX6_copy_117 : decode cX6_copy 117 = .ok (.getfield 41, 3) := by decide +kernel
theorem dX6_copy_120 : decode cX6_copy 120 = .ok (.getfield 231, 3) := by decide +kernel
theorem dX6_copy_123 : decode cX6_copy 123 = .ok (.iload_n 3, 1) := by decide +kernel
theorem dX6_copy_124 : decode cX6_copy 124 = .ok (.aaload, 1) := by decide +kernel
theorem dX6_copy_125 : decode cX6_copy 125 = .ok (.iload 4, 2) := by decide +kernel
theorem dX6_copy_127 : decode cX6_copy 127 = .ok (.iload 5, 2) := by decide +kernel
theorem dX6_copy_129 : decode cX6_copy 129 = .ok (.invokestatic 235, 3) := by decide +kernel
theorem dX6_copy_132 : decode cX6_copy 132 = .ok (.iload 5, 2) := by decide +kernel
theorem dX6_copy_134 : decode cX6_copy 134 = .ok (.ireturn, 1) := by decide +kernel
theorem dX6_wicks_0 : decode cX6_wicks 0 = .ok (.aload_n 0, 1) := by decide +kernel
theorem dX6_wicks_1 : decode cX6_wicks 1 = .ok (.getfield 41, 3) := by decide +kernel
theorem dX6_wicks_4 : decode cX6_wicks 4 = .ok (.iload_n 1, 1) := by decide +kernel
theorem dX6_wicks_5 : decode cX6_wicks 5 = .ok (.invokevirtual 186, 3) := by decide +kernel
theorem dX6_wicks_8 : decode cX6_wicks 8 = .ok (.ifCond .eq 22, 3) := by decide +kernel
theorem dX6_wicks_11 : decode cX6_wicks 11 = .ok (.iload_n 2, 1) := by decide +kernel
theorem dX6_wicks_12 : decode cX6_wicks 12 = .ok (.iconst 0, 1) := by decide +kernel
theorem dX6_wicks_13 : decode cX6_wicks 13 = .ok (.iconst 2, 1) := by decide +kernel
theorem dX6_wicks_14 : decode cX6_wicks 14 = .ok (.invokestatic 56, 3) := by decide +kernel
theorem dX6_wicks_17 : decode cX6_wicks 17 = .ok (.ifCond .eq 13, 3) := by decide +kernel
theorem dX6_wicks_20 : decode cX6_wicks 20 = .ok (.iload 4, 2) := by decide +kernel
theorem dX6_wicks_22 : decode cX6_wicks 22 = .ok (.iconst 0, 1) := by decide +kernel
theorem dX6_wicks_23 : decode cX6_wicks 23 = .ok (.iconst 5, 1) := by decide +kernel
theorem dX6_wicks_24 : decode cX6_wicks 24 = .ok (.invokestatic 56, 3) := by decide +kernel
theorem dX6_wicks_27 : decode cX6_wicks 27 = .ok (.ifCond .ne 6, 3) := by decide +kernel
theorem dX6_wicks_30 : decode cX6_wicks 30 = .ok (.bipush (-2), 2) := by decide +kernel
theorem dX6_wicks_32 : decode cX6_wicks 32 = .ok (.ireturn, 1) := by decide +kernel
theorem dX6_wicks_33 : decode cX6_wicks 33 = .ok (.aload_n 0, 1) := by decide +kernel
theorem dX6_wicks_34 : decode cX6_wicks 34 = .ok (.getfield 41, 3) := by decide +kernel
theorem dX6_wicks_37 : decode cX6_wicks 37 = .ok (.iload_n 1, 1) := by decide +kernel
theorem dX6_wicks_38 : decode cX6_wicks 38 = .ok (.invokevirtual 187, 3) := by decide +kernel
theorem dX6_wicks_41 : decode cX6_wicks 41 = .ok (.ifCond .eq 6, 3) := by decide +kernel
theorem dX6_wicks_44 : decode cX6_wicks 44 = .ok (.bipush (-11), 2) := by decide +kernel
theorem dX6_wicks_46 : decode cX6_wicks 46 = .ok (.ireturn, 1) := by decide +kernel
theorem dX6_wicks_47 : decode cX6_wicks 47 = .ok (.aload_n 0, 1) := by decide +kernel
theorem dX6_wicks_48 : decode cX6_wicks 48 = .ok (.getfield 41, 3) := by decide +kernel
theorem dX6_wicks_51 : decode cX6_wicks 51 = .ok (.getfield 228, 3) := by decide +kernel
theorem dX6_wicks_54 : decode cX6_wicks 54 = .ok (.iload_n 1, 1) := by decide +kernel
theorem dX6_wicks_55 : decode cX6_wicks 55 = .ok (.iaload, 1) := by decide +kernel
theorem dX6_wicks_56 : decode cX6_wicks 56 = .ok (.iload_n 2, 1) := by decide +kernel
theorem dX6_wicks_57 : decode cX6_wicks 57 = .ok (.if_icmp .eq 6, 3) := by decide +kernel
theorem dX6_wicks_60 : decode cX6_wicks 60 = .ok (.bipush (-13), 2) := by decide +kernel
theorem dX6_wicks_62 : decode cX6_wicks 62 = .ok (.ireturn, 1) := by decide +kernel
theorem dX6_wicks_63 : decode cX6_wicks 63 = .ok (.iconst 0, 1) := by decide +kernel
theorem dX6_wicks_64 : decode cX6_wicks 64 = .ok (.istore 5, 2) := by decide +kernel
theorem dX6_wicks_66 : decode cX6_wicks 66 = .ok (.iconst 0, 1) := by decide +kernel
theorem dX6_wicks_67 : decode cX6_wicks 67 = .ok (.istore 6, 2) := by decide +kernel
theorem dX6_wicks_69 : decode cX6_wicks 69 = .ok (.iload 6, 2) := by decide +kernel
theorem dX6_wicks_71 : decode cX6_wicks 71 = .ok (.iload 4, 2) := by decide +kernel
theorem dX6_wicks_73 : decode cX6_wicks 73 = .ok (.if_icmp .ge 53, 3) := by decide +kernel
theorem dX6_wicks_76 : decode cX6_wicks 76 = .ok (.iload_n 3, 1) := by decide +kernel
theorem dX6_wicks_77 : decode cX6_wicks 77 = .ok (.bipush 40, 2) := by decide +kernel
theorem dX6_wicks_79 : decode cX6_wicks 79 = .ok (.if_icmp .gt 21, 3) := by decide +kernel
theorem dX6_wicks_82 : decode cX6_wicks 82 = .ok (.aload_n 0, 1) := by decide +kernel
theorem dX6_wicks_83 : decode cX6_wicks 83 = .ok (.getfield 41, 3) := by decide +kernel
theorem dX6_wicks_86 : decode cX6_wicks 86 = .ok (.iload_n 1, 1) := by decide +kernel
theorem dX6_wicks_87 : decode cX6_wicks 87 = .ok (.iload_n 3, 1) := by decide +kernel
theorem dX6_wicks_88 : decode cX6_wicks 88 = .ok (.iload 6, 2) := by decide +kernel
theorem dX6_wicks_90 : decode cX6_wicks 90 = .ok (.iconst 3, 1) := by decide +kernel
theorem dX6_wicks_91 : decode cX6_wicks 91 = .ok (.imul, 1) := by decide +kernel
theorem dX6_wicks_92 : decode cX6_wicks 92 = .ok (.iadd, 1) := by decide +kernel
theorem dX6_wicks_93 : decode cX6_wicks 93 = .ok (.iconst 3, 1) := by decide +kernel
theorem dX6_wicks_94 : decode cX6_wicks 94 = .ok (.invokevirtual 222, 3) := by decide +kernel
theorem dX6_wicks_97 : decode cX6_wicks 97 = .ok (.ifCond .ne 6, 3) := by decide +kernel
theorem dX6_wicks_100 : decode cX6_wicks 100 = .ok (.bipush (-12), 2) := by decide +kernel
theorem dX6_wicks_102 : decode cX6_wicks 102 = .ok (.ireturn, 1) := by decide +kernel
theorem dX6_wicks_103 : decode cX6_wicks 103 = .ok (.aload_n 0, 1) := by decide +kernel
theorem dX6_wicks_104 : decode cX6_wicks 104 = .ok (.iload_n 1, 1) := by decide +kernel
theorem dX6_wicks_105 : decode cX6_wicks 105 = .ok (.iload_n 3, 1) := by decide +kernel
theorem dX6_wicks_106 : decode cX6_wicks 106 = .ok (.iload 6, 2) := by decide +kernel
theorem dX6_wicks_108 : decode cX6_wicks 108 = .ok (.iconst 3, 1) := by decide +kernel
theorem dX6_wicks_109 : decode cX6_wicks 109 = .ok (.imul, 1) := by decide +kernel
theorem dX6_wicks_110 : decode cX6_wicks 110 = .ok (.iadd, 1) := by decide +kernel
theorem dX6_wicks_111 : decode cX6_wicks 111 = .ok (.invokevirtual 241, 3) := by decide +kernel
theorem dX6_wicks_114 : decode cX6_wicks 114 = .ok (.ifCond .lt 6, 3) := by decide +kernel
theorem dX6_wicks_117 : decode cX6_wicks 117 = .ok (.iinc 5 1, 3) := by decide +kernel
theorem dX6_wicks_120 : decode cX6_wicks 120 = .ok (.iinc 6 1, 3) := by decide +kernel
theorem dX6_wicks_123 : decode cX6_wicks 123 = .ok (.goto (-54), 3) := by decide +kernel
theorem dX6_wicks_126 : decode cX6_wicks 126 = .ok (.iload 5, 2) := by decide +kernel
theorem dX6_wicks_128 : decode cX6_wicks 128 = .ok (.ireturn, 1) := by decide +kernel
theorem dX6_wickBy_0 : decode cX6_wickBy 0 = .ok (.aload_n 0, 1) := by decide +kernel
theorem dX6_wickBy_1 : decode cX6_wickBy 1 = .ok (.aload_n 0, 1) := by decide +kernel
theorem dX6_wickBy_2 : decode cX6_wickBy 2 = .ok (.getfield 41, 3) := by decide +kernel
theorem dX6_wickBy_5 : decode cX6_wickBy 5 = .ok (.iload_n 1, 1) := by decide +kernel
theorem dX6_wickBy_6 : decode cX6_wickBy 6 = .ok (.iload_n 2, 1) := by decide +kernel
theorem dX6_wickBy_7 : decode cX6_wickBy 7 = .ok (.invokevirtual 200, 3) := by decide +kernel
theorem dX6_wickBy_10 : decode cX6_wickBy 10 = .ok (.aload_n 0, 1) := by decide +kernel
theorem dX6_wickBy_11 : decode cX6_wickBy 11 = .ok (.getfield 41, 3) := by decide +kernel
theorem dX6_wickBy_14 : decode cX6_wickBy 14 = .ok (.iload_n 1, 1) := by decide +kernel
theorem dX6_wickBy_15 : decode cX6_wickBy 15 = .ok (.iload_n 2, 1) := by decide +kernel
theorem dX6_wickBy_16 : decode cX6_wickBy 16 = .ok (.iconst 1, 1) := by decide +kernel
theorem dX6_wickBy_17 : decode cX6_wickBy 17 = .ok (.iadd, 1) := by decide +kernel
theorem dX6_wickBy_18 : decode cX6_wickBy 18 = .ok (.invokevirtual 200, 3) := by decide +kernel
theorem dX6_wickBy_21 : decode cX6_wickBy 21 = .ok (.aload_n 0, 1) := by decide +kernel
theorem dX6_wickBy_22 : decode cX6_wickBy 22 = .ok (.getfield 41, 3) := by decide +kernel
theorem dX6_wickBy_25 : decode cX6_wickBy 25 = .ok (.iload_n 1, 1) := by decide +kernel
theorem dX6_wickBy_26 : decode cX6_wickBy 26 = .ok (.iload_n 2, 1) := by decide +kernel
theorem dX6_wickBy_27 : decode cX6_wickBy 27 = .ok (.iconst 2, 1) := by decide +kernel
theorem dX6_wickBy_28 : decode cX6_wickBy 28 = .ok (.iadd, 1) := by decide +kernel
theorem dX6_wickBy_29 : decode cX6_wickBy 29 = .ok (.invokevirtual 200, 3) := by decide +kernel
theorem dX6_wickBy_32 : decode cX6_wickBy 32 = .ok (.invokevirtual 244, 3) := by decide +kernel
theorem dX6_wickBy_35 : decode cX6_wickBy 35 = .ok (.ireturn, 1) := by decide +kernel
theorem dX6_taken_0 : decode cX6_taken 0 = .ok (.iload_n 2, 1) := by decide +kernel
theorem dX6_taken_1 : decode cX6_taken 1 = .ok (.iconst 0, 1) := by decide +kernel
theorem dX6_taken_2 : decode cX6_taken 2 = .ok (.iconst 5, 1) := by decide +kernel
theorem dX6_taken_3 : decode cX6_taken 3 = .ok (.invokestatic 56, 3) := by decide +kernel
theorem dX6_taken_6 : decode cX6_taken 6 = .ok (.ifCond .ne 6, 3) := by decide +kernel
theorem dX6_taken_9 : decode cX6_taken 9 = .ok (.bipush (-2), 2) := by decide +kernel
theorem dX6_taken_11 : decode cX6_taken 11 = .ok (.ireturn, 1) := by decide +kernel
theorem dX6_taken_12 : decode cX6_taken 12 = .ok (.aload_n 0, 1) := by decide +kernel
theorem dX6_taken_13 : decode cX6_taken 13 = .ok (.getfield 10, 3) := by decide +kernel
theorem dX6_taken_16 : decode cX6_taken 16 = .ok (.iload_n 1, 1) := by decide +kernel
theorem dX6_taken_17 : decode cX6_taken 17 = .ok (.invokevirtual 75, 3) := by decide +kernel
theorem dX6_taken_20 : decode cX6_taken 20 = .ok (.ifCond .ne 6, 3) := by decide +kernel
theorem dX6_taken_23 : decode cX6_taken 23 = .ok (.bipush (-11), 2) := by decide +kernel
theorem dX6_taken_25 : decode cX6_taken 25 = .ok (.ireturn, 1) := by decide +kernel
theorem dX6_taken_26 : decode cX6_taken 26 = .ok (.aload_n 0, 1) := by decide +kernel
theorem dX6_taken_27 : decode cX6_taken 27 = .ok (.getfield 10, 3) := by decide +kernel
theorem dX6_taken_30 : decode cX6_taken 30 = .ok (.getfield 106, 3) := by decide +kernel
theorem dX6_taken_33 : decode cX6_taken 33 = .ok (.iload_n 1, 1) := by decide +kernel
theorem dX6_taken_34 : decode cX6_taken 34 = .ok (.iaload, 1) := by decide +kernel
theorem dX6_taken_35 : decode cX6_taken 35 = .ok (.iload_n 2, 1) := by decide +kernel
theorem dX6_taken_36 : decode cX6_taken 36 = .ok (.invokestatic 247, 3) := by decide +kernel
theorem dX6_taken_39 : decode cX6_taken 39 = .ok (.ifCond .eq 15, 3) := by decide +kernel
theorem dX6_taken_42 : decode cX6_taken 42 = .ok (.aload_n 0, 1) := by decide +kernel
theorem dX6_taken_43 : decode cX6_taken 43 = .ok (.getfield 10, 3) := by decide +kernel
theorem dX6_taken_46 : decode cX6_taken 46 = .ok (.getfield 103, 3) := by decide +kernel
theorem dX6_taken_49 : decode cX6_taken 49 = .ok (.iload_n 1, 1) := by decide +kernel
theorem dX6_taken_50 : decode cX6_taken 50 = .ok (.iaload, 1) := by decide +kernel
theorem dX6_taken_51 : decode cX6_taken 51 = .ok (.goto 5, 3) := by decide +kernel
theorem dX6_taken_54 : decode cX6_taken 54 = .ok (.bipush (-13), 2) := by decide +kernel
theorem dX6_taken_56 : decode cX6_taken 56 = .ok (.ireturn, 1) := by decide +kernel
theorem dX6_isUnder_0 : decode cX6_isUnder 0 = .ok (.iload_n 0, 1) := by decide +kernel
theorem dX6_isUnder_1 : decode cX6_isUnder 1 = .ok (.istore_n 2, 1) := by decide +kernel
theorem dX6_isUnder_2 : decode cX6_isUnder 2 = .ok (.iconst 0, 1) := by decide +kernel
theorem dX6_isUnder_3 : decode cX6_isUnder 3 = .ok (.istore_n 3, 1) := by decide +kernel
theorem dX6_isUnder_4 : decode cX6_isUnder 4 = .ok (.iload_n 3, 1) := by decide +kernel
theorem dX6_isUnder_5 : decode cX6_isUnder 5 = .ok (.bipush 6, 2) := by decide +kernel
theorem dX6_isUnder_7 : decode cX6_isUnder 7 = .ok (.if_icmp .ge 32, 3) := by decide +kernel
theorem dX6_isUnder_10 : decode cX6_isUnder 10 = .ok (.iload_n 2, 1) := by decide +kernel
theorem dX6_isUnder_11 : decode cX6_isUnder 11 = .ok (.ifCond .lt 28, 3) := by decide +kernel
theorem dX6_isUnder_14 : decode cX6_isUnder 14 = .ok (.iload_n 2, 1) := by decide +kernel
theorem dX6_isUnder_15 : decode cX6_isUnder 15 = .ok (.bipush 6, 2) := by decide +kernel
theorem dX6_isUnder_17 : decode cX6_isUnder 17 = .ok (.if_icmp .ge 22, 3) := by decide +kernel
theorem dX6_isUnder_20 : decode cX6_isUnder 20 = .ok (.iload_n 2, 1) := by decide +kernel
theorem dX6_isUnder_21 : decode cX6_isUnder 21 = .ok (.iload_n 1, 1) := by decide +kernel
theorem dX6_isUnder_22 : decode cX6_isUnder 22 = .ok (.if_icmp .ne 5, 3) := by decide +kernel
theorem dX6_isUnder_25 : decode cX6_isUnder 25 = .ok (.iconst 1, 1) := by decide +kernel
theorem dX6_isUnder_26 : decode cX6_isUnder 26 = .ok (.ireturn, 1) := by decide +kernel
theorem dX6_isUnder_27 : decode cX6_isUnder 27 = .ok (.getstatic 250, 3) := by decide +kernel
theorem dX6_isUnder_30 : decode cX6_isUnder 30 = .ok (.iload_n 2, 1) := by decide +kernel
theorem dX6_isUnder_31 : decode cX6_isUnder 31 = .ok (.iaload, 1) := by decide +kernel
theorem dX6_isUnder_32 : decode cX6_isUnder 32 = .ok (.istore_n 2, 1) := by decide +kernel
theorem dX6_isUnder_33 : decode cX6_isUnder 33 = .ok (.iinc 3 1, 3) := by decide +kernel
theorem dX6_isUnder_36 : decode cX6_isUnder 36 = .ok (.goto (-32), 3) := by decide +kernel
theorem dX6_isUnder_39 : decode cX6_isUnder 39 = .ok (.iconst 0, 1) := by decide +kernel
theorem dX6_isUnder_40 : decode cX6_isUnder 40 = .ok (.ireturn, 1) := by decide +kernel
theorem dX6_within_0 : decode cX6_within 0 = .ok (.iload_n 0, 1) := by decide +kernel
theorem dX6_within_1 : decode cX6_within 1 = .ok (.iload_n 1, 1) := by decide +kernel
theorem dX6_within_2 : decode cX6_within 2 = .ok (.if_icmp .lt 12, 3) := by decide +kernel
theorem dX6_within_5 : decode cX6_within 5 = .ok (.iload_n 0, 1) := by decide +kernel
theorem dX6_within_6 : decode cX6_within 6 = .ok (.iload_n 2, 1) := by decide +kernel
theorem dX6_within_7 : decode cX6_within 7 = .ok (.if_icmp .gt 7, 3) := by decide +kernel
theorem dX6_within_10 : decode cX6_within 10 = .ok (.iconst 1, 1) := by decide +kernel
theorem dX6_within_11 : decode cX6_within 11 = .ok (.goto 4, 3) := by decide +kernel
theorem dX6_within_14 : decode cX6_within 14 = .ok (.iconst 0, 1) := by decide +kernel
theorem dX6_within_15 : decode cX6_within 15 = .ok (.ireturn, 1) := by decide +kernel
