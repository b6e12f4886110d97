theorem dX0_init_0 : decode cX0_init 0 = .ok (.aload_n 0, 1) := by decide +kernel
theorem dX0_init_1 : decode cX0_init 1 = .ok (.invokespecial 3, 3) := by decide +kernel
theorem dX0_init_4 : decode cX0_init 4 = .ok (.aload_n 0, 1) := by decide +kernel
theorem dX0_init_5 : decode cX0_init 5 = .ok (.iconst 4, 1) := by decide +kernel
theorem dX0_init_6 : decode cX0_init 6 = .ok (.newarray .int, 2) := by decide +kernel
theorem dX0_init_8 : decode cX0_init 8 = .ok (.putfield 9, 3) := by decide +kernel
theorem dX0_init_11 : decode cX0_init 11 = .ok (.aload_n 0, 1) := by decide +kernel
theorem dX0_init_12 : decode cX0_init 12 = .ok (.iconst 4, 1) := by decide +kernel
theorem dX0_init_13 : decode cX0_init 13 = .ok (.newarray .int, 2) := by decide +kernel
theorem dX0_init_15 : decode cX0_init 15 = .ok (.putfield 15, 3) := by decide +kernel
theorem dX0_init_18 : decode cX0_init 18 = .ok (.aload_n 0, 1) := by decide +kernel
theorem dX0_init_19 : decode cX0_init 19 = .ok (.iconst 4, 1) := by decide +kernel
theorem dX0_init_20 : decode cX0_init 20 = .ok (.newarray .int, 2) := by decide +kernel
theorem dX0_init_22 : decode cX0_init 22 = .ok (.putfield 18, 3) := by decide +kernel
theorem dX0_init_25 : decode cX0_init 25 = .ok (.aload_n 0, 1) := by decide +kernel
theorem dX0_init_26 : decode cX0_init 26 = .ok (.iconst 4, 1) := by decide +kernel
theorem dX0_init_27 : decode cX0_init 27 = .ok (.newarray .int, 2) := by decide +kernel
theorem dX0_init_29 : decode cX0_init 29 = .ok (.putfield 21, 3) := by decide +kernel
theorem dX0_init_32 : decode cX0_init 32 = .ok (.aload_n 0, 1) := by decide +kernel
theorem dX0_init_33 : decode cX0_init 33 = .ok (.iconst 4, 1) := by decide +kernel
theorem dX0_init_34 : decode cX0_init 34 = .ok (.newarray .int, 2) := by decide +kernel
theorem dX0_init_36 : decode cX0_init 36 = .ok (.putfield 24, 3) := by decide +kernel
theorem dX0_init_39 : decode cX0_init 39 = .ok (.aload_n 0, 1) := by decide +kernel
theorem dX0_init_40 : decode cX0_init 40 = .ok (.iconst 0, 1) := by decide +kernel
theorem dX0_init_41 : decode cX0_init 41 = .ok (.putfield 27, 3) := by decide +kernel
theorem dX0_init_44 : decode cX0_init 44 = .ok (.aload_n 0, 1) := by decide +kernel
theorem dX0_init_45 : decode cX0_init 45 = .ok (.iconst 0, 1) := by decide +kernel
theorem dX0_init_46 : decode cX0_init 46 = .ok (.putfield 31, 3) := by decide +kernel
theorem dX0_init_49 : decode cX0_init 49 = .ok (.aload_n 0, 1) := by decide +kernel
theorem dX0_init_50 : decode cX0_init 50 = .ok (.iconst 0, 1) := by decide +kernel
theorem dX0_init_51 : decode cX0_init 51 = .ok (.putfield 34, 3) := by decide +kernel
theorem dX0_init_54 : decode cX0_init 54 = .ok (.aload_n 0, 1) := by decide +kernel
theorem dX0_init_55 : decode cX0_init 55 = .ok (.iconst 0, 1) := by decide +kernel
theorem dX0_init_56 : decode cX0_init 56 = .ok (.putfield 37, 3) := by decide +kernel
theorem dX0_init_59 : decode cX0_init 59 = .ok (.return_, 1) := by decide +kernel
theorem dX0_has_0 : decode cX0_has 0 = .ok (.iload_n 1, 1) := by decide +kernel
theorem dX0_has_1 : decode cX0_has 1 = .ok (.ifCond .lt 20, 3) := by decide +kernel
theorem dX0_has_4 : decode cX0_has 4 = .ok (.iload_n 1, 1) := by decide +kernel
theorem dX0_has_5 : decode cX0_has 5 = .ok (.aload_n 0, 1) := by decide +kernel
theorem dX0_has_6 : decode cX0_has 6 = .ok (.getfield 27, 3) := by decide +kernel
theorem dX0_has_9 : decode cX0_has 9 = .ok (.if_icmp .ge 12, 3) := by decide +kernel
theorem dX0_has_12 : decode cX0_has 12 = .ok (.iload_n 1, 1) := by decide +kernel
theorem dX0_has_13 : decode cX0_has 13 = .ok (.iconst 4, 1) := by decide +kernel
theorem dX0_has_14 : decode cX0_has 14 = .ok (.if_icmp .ge 7, 3) := by decide +kernel
theorem dX0_has_17 : decode cX0_has 17 = .ok (.iconst 1, 1) := by decide +kernel
theorem dX0_has_18 : decode cX0_has 18 = .ok (.goto 4, 3) := by decide +kernel
theorem dX0_has_21 : decode cX0_has 21 = .ok (.iconst 0, 1) := by decide +kernel
theorem dX0_has_22 : decode cX0_has 22 = .ok (.ireturn, 1) := by decide +kernel
theorem dX0_add_0 : decode cX0_add 0 = .ok (.aload_n 0, 1) := by decide +kernel
theorem dX0_add_1 : decode cX0_add 1 = .ok (.getfield 27, 3) := by decide +kernel
theorem dX0_add_4 : decode cX0_add 4 = .ok (.istore 4, 2) := by decide +kernel
theorem dX0_add_6 : decode cX0_add 6 = .ok (.iload 4, 2) := by decide +kernel
theorem dX0_add_8 : decode cX0_add 8 = .ok (.iconst 4, 1) := by decide +kernel
theorem dX0_add_9 : decode cX0_add 9 = .ok (.if_icmp .lt 6, 3) := by decide +kernel
theorem dX0_add_12 : decode cX0_add 12 = .ok (.bipush (-4), 2) := by decide +kernel
theorem dX0_add_14 : decode cX0_add 14 = .ok (.ireturn, 1) := by decide +kernel
theorem dX0_add_15 : decode cX0_add 15 = .ok (.aload_n 0, 1) := by decide +kernel
theorem dX0_add_16 : decode cX0_add 16 = .ok (.getfield 9, 3) := by decide +kernel
theorem dX0_add_19 : decode cX0_add 19 = .ok (.iload 4, 2) := by decide +kernel
theorem dX0_add_21 : decode cX0_add 21 = .ok (.iload_n 1, 1) := by decide +kernel
theorem dX0_add_22 : decode cX0_add 22 = .ok (.iastore, 1) := by decide +kernel
theorem dX0_add_23 : decode cX0_add 23 = .ok (.aload_n 0, 1) := by decide +kernel
theorem dX0_add_24 : decode cX0_add 24 = .ok (.getfield 15, 3) := by decide +kernel
theorem dX0_add_27 : decode cX0_add 27 = .ok (.iload 4, 2) := by decide +kernel
theorem dX0_add_29 : decode cX0_add 29 = .ok (.iload_n 2, 1) := by decide +kernel
theorem dX0_add_30 : decode cX0_add 30 = .ok (.iastore, 1) := by decide +kernel
theorem dX0_add_31 : decode cX0_add 31 = .ok (.aload_n 0, 1) := by decide +kernel
theorem dX0_add_32 : decode cX0_add 32 = .ok (.getfield 18, 3) := by decide +kernel
theorem dX0_add_35 : decode cX0_add 35 = .ok (.iload 4, 2) := by decide +kernel
theorem dX0_add_37 : decode cX0_add 37 = .ok (.iload_n 3, 1) := by decide +kernel
theorem dX0_add_38 : decode cX0_add 38 = .ok (.iastore, 1) := by decide +kernel
theorem dX0_add_39 : decode cX0_add 39 = .ok (.aload_n 0, 1) := by decide +kernel
theorem dX0_add_40 : decode cX0_add 40 = .ok (.getfield 21, 3) := by decide +kernel
theorem dX0_add_43 : decode cX0_add 43 = .ok (.iload 4, 2) := by decide +kernel
theorem dX0_add_45 : decode cX0_add 45 = .ok (.iconst 0, 1) := by decide +kernel
theorem dX0_add_46 : decode cX0_add 46 = .ok (.iastore, 1) := by decide +kernel
theorem dX0_add_47 : decode cX0_add 47 = .ok (.aload_n 0, 1) := by decide +kernel
theorem dX0_add_48 : decode cX0_add 48 = .ok (.getfield 24, 3) := by decide +kernel
theorem dX0_add_51 : decode cX0_add 51 = .ok (.iload 4, 2) := by decide +kernel
theorem dX0_add_53 : decode cX0_add 53 = .ok (.iconst 0, 1) := by decide +kernel
theorem dX0_add_54 : decode cX0_add 54 = .ok (.iastore, 1) := by decide +kernel
theorem dX0_add_55 : decode cX0_add 55 = .ok (.aload_n 0, 1) := by decide +kernel
theorem dX0_add_56 : decode cX0_add 56 = .ok (.iload 4, 2) := by decide +kernel
theorem dX0_add_58 : decode cX0_add 58 = .ok (.iconst 1, 1) := by decide +kernel
theorem dX0_add_59 : decode cX0_add 59 = .ok (.iadd, 1) := by decide +kernel
theorem dX0_add_60 : decode cX0_add 60 = .ok (.putfield 27, 3) := by decide +kernel
theorem dX0_add_63 : decode cX0_add 63 = .ok (.iload 4, 2) := by decide +kernel
theorem dX0_add_65 : decode cX0_add 65 = .ok (.ireturn, 1) := by decide +kernel
theorem dX0_change_0 : decode cX0_change 0 = .ok (.iload_n 1, 1) := by decide +kernel
theorem dX0_change_1 : decode cX0_change 1 = .ok (.ifCond .ne 10, 3) := by decide +kernel
theorem dX0_change_4 : decode cX0_change 4 = .ok (.aload_n 0, 1) := by decide +kernel
theorem dX0_change_5 : decode cX0_change 5 = .ok (.getfield 18, 3) := by decide +kernel
theorem dX0_change_8 : decode cX0_change 8 = .ok (.goto 31, 3) := by decide +kernel
theorem dX0_change_11 : decode cX0_change 11 = .ok (.iload_n 1, 1) := by decide +kernel
theorem dX0_change_12 : decode cX0_change 12 = .ok (.iconst 1, 1) := by decide +kernel
theorem dX0_change_13 : decode cX0_change 13 = .ok (.if_icmp .ne 10, 3) := by decide +kernel
theorem dX0_change_16 : decode cX0_change 16 = .ok (.aload_n 0, 1) := by decide +kernel
theorem dX0_change_17 : decode cX0_change 17 = .ok (.getfield 21, 3) := by decide +kernel
theorem dX0_change_20 : decode cX0_change 20 = .ok (.goto 19, 3) := by decide +kernel
theorem dX0_change_23 : decode cX0_change 23 = .ok (.iload_n 1, 1) := by decide +kernel
theorem dX0_change_24 : decode cX0_change 24 = .ok (.iconst 2, 1) := by decide +kernel
theorem dX0_change_25 : decode cX0_change 25 = .ok (.if_icmp .ne 10, 3) := by decide +kernel
theorem dX0_change_28 : decode cX0_change 28 = .ok (.aload_n 0, 1) := by decide +kernel
theorem dX0_change_29 : decode cX0_change 29 = .ok (.getfield 24, 3) := by decide +kernel
theorem dX0_change_32 : decode cX0_change 32 = .ok (.goto 7, 3) := by decide +kernel
theorem dX0_change_35 : decode cX0_change 35 = .ok (.aload_n 0, 1) := by decide +kernel
theorem dX0_change_36 : decode cX0_change 36 = .ok (.getfield 15, 3) := by decide +kernel
theorem dX0_change_39 : decode cX0_change 39 = .ok (.astore 4, 2) := by decide +kernel
theorem dX0_change_41 : decode cX0_change 41 = .ok (.aload_n 0, 1) := by decide +kernel
theorem dX0_change_42 : decode cX0_change 42 = .ok (.iload_n 2, 1) := by decide +kernel
theorem dX0_change_43 : decode cX0_change 43 = .ok (.invokevirtual 40, 3) := by decide +kernel
theorem dX0_change_46 : decode cX0_change 46 = .ok (.ifCond .ne 6, 3) := by decide +kernel
theorem dX0_change_49 : decode cX0_change 49 = .ok (.bipush (-2), 2) := by decide +kernel
theorem dX0_change_51 : decode cX0_change 51 = .ok (.ireturn, 1) := by decide +kernel
theorem dX0_change_52 : decode cX0_change 52 = .ok (.aload 4, 2) := by decide +kernel
theorem dX0_change_54 : decode cX0_change 54 = .ok (.iload_n 2, 1) := by decide +kernel
theorem dX0_change_55 : decode cX0_change 55 = .ok (.iaload, 1) := by decide +kernel
theorem dX0_change_56 : decode cX0_change 56 = .ok (.istore 5, 2) := by decide +kernel
theorem dX0_change_58 : decode cX0_change 58 = .ok (.aload 4, 2) := by decide +kernel
theorem dX0_change_60 : decode cX0_change 60 = .ok (.iload_n 2, 1) := by decide +kernel
theorem dX0_change_61 : decode cX0_change 61 = .ok (.iload_n 3, 1) := by decide +kernel
theorem dX0_change_62 : decode cX0_change 62 = .ok (.iastore, 1) := by decide +kernel
theorem dX0_change_63 : decode cX0_change 63 = .ok (.aload_n 0, 1) := by decide +kernel
theorem dX0_change_64 : decode cX0_change 64 = .ok (.getfield 18, 3) := by decide +kernel
theorem dX0_change_67 : decode cX0_change 67 = .ok (.iload_n 2, 1) := by decide +kernel
theorem dX0_change_68 : decode cX0_change 68 = .ok (.iaload, 1) := by decide +kernel
theorem dX0_change_69 : decode cX0_change 69 = .ok (.ifCond .ne 10, 3) := by decide +kernel
theorem dX0_change_72 : decode cX0_change 72 = .ok (.aload_n 0, 1) := by decide +kernel
theorem dX0_change_73 : decode cX0_change 73 = .ok (.getfield 21, 3) := by decide +kernel
theorem dX0_change_76 : decode cX0_change 76 = .ok (.iload_n 2, 1) := by decide +kernel
theorem dX0_change_77 : decode cX0_change 77 = .ok (.iconst 0, 1) := by decide +kernel
theorem dX0_change_78 : decode cX0_change 78 = .ok (.iastore, 1) := by decide +kernel
theorem dX0_change_79 : decode cX0_change 79 = .ok (.iload 5, 2) := by decide +kernel
theorem dX0_change_81 : decode cX0_change 81 = .ok (.ireturn, 1) := by decide +kernel
theorem dX0_takeOver_0 : decode cX0_takeOver 0 = .ok (.aload_n 1, 1) := by decide +kernel
theorem dX0_takeOver_1 : decode cX0_takeOver 1 = .ok (.getfield 9, 3) := by decide +kernel
theorem dX0_takeOver_4 : decode cX0_takeOver 4 = .ok (.iconst 0, 1) := by decide +kernel
theorem dX0_takeOver_5 : decode cX0_takeOver 5 = .ok (.aload_n 0, 1) := by decide +kernel
theorem dX0_takeOver_6 : decode cX0_takeOver 6 = .ok (.getfield 9, 3) := by decide +kernel
theorem dX0_takeOver_9 : decode cX0_takeOver 9 = .ok (.iconst 0, 1) := by decide +kernel
theorem dX0_takeOver_10 : decode cX0_takeOver 10 = .ok (.iconst 4, 1) := by decide +kernel
theorem dX0_takeOver_11 : decode cX0_takeOver 11 = .ok (.invokestatic 44, 3) := by decide +kernel
theorem dX0_takeOver_14 : decode cX0_takeOver 14 = .ok (.aload_n 1, 1) := by decide +kernel
theorem dX0_takeOver_15 : decode cX0_takeOver 15 = .ok (.getfield 15, 3) := by decide +kernel
theorem dX0_takeOver_18 : decode cX0_takeOver 18 = .ok (.iconst 0, 1) := by decide +kernel
theorem dX0_takeOver_19 : decode cX0_takeOver 19 = .ok (.aload_n 0, 1) := by decide +kernel
theorem dX0_takeOver_20 : decode cX0_takeOver 20 = .ok (.getfield 15, 3) := by decide +kernel
theorem dX0_takeOver_23 : decode cX0_takeOver 23 = .ok (.iconst 0, 1) := by decide +kernel
theorem dX0_takeOver_24 : decode cX0_takeOver 24 = .ok (.iconst 4, 1) := by decide +kernel
theorem dX0_takeOver_25 : decode cX0_takeOver 25 = .ok (.invokestatic 44, 3) := by decide +kernel
theorem dX0_takeOver_28 : decode cX0_takeOver 28 = .ok (.aload_n 1, 1) := by decide +kernel
theorem dX0_takeOver_29 : decode cX0_takeOver 29 = .ok (.getfield 18, 3) := by decide +kernel
theorem dX0_takeOver_32 : decode cX0_takeOver 32 = .ok (.iconst 0, 1) := by decide +kernel
theorem dX0_takeOver_33 : decode cX0_takeOver 33 = .ok (.aload_n 0, 1) := by decide +kernel
theorem dX0_takeOver_34 : decode cX0_takeOver 34 = .ok (.getfield 18, 3) := by decide +kernel
theorem dX0_takeOver_37 : decode cX0_takeOver 37 = .ok (.iconst 0, 1) := by decide +kernel
theorem dX0_takeOver_38 : decode cX0_takeOver 38 = .ok (.iconst 4, 1) := by decide +kernel
theorem dX0_takeOver_39 : decode cX0_takeOver 39 = .ok (.invokestatic 44, 3) := by decide +kernel
theorem dX0_takeOver_42 : decode cX0_takeOver 42 = .ok (.aload_n 1, 1) := by decide +kernel
theorem dX0_takeOver_43 : decode cX0_takeOver 43 = .ok (.getfield 21, 3) := by decide +kernel
theorem dX0_takeOver_46 : decode cX0_takeOver 46 = .ok (.iconst 0, 1) := by decide +kernel
theorem dX0_takeOver_47 : decode cX0_takeOver 47 = .ok (.aload_n 0, 1) := by decide +kernel
theorem dX0_takeOver_48 : decode cX0_takeOver 48 = .ok (.getfield 21, 3) := by decide +kernel
theorem dX0_takeOver_51 : decode cX0_takeOver 51 = .ok (.iconst 0, 1) := by decide +kernel
theorem dX0_takeOver_52 : decode cX0_takeOver 52 = .ok (.iconst 4, 1) := by decide +kernel
theorem dX0_takeOver_53 : decode cX0_takeOver 53 = .ok (.invokestatic 44, 3) := by decide +kernel
theorem dX0_takeOver_56 : decode cX0_takeOver 56 = .ok (.aload_n 1, 1) := by decide +kernel
theorem dX0_takeOver_57 : decode cX0_takeOver 57 = .ok (.getfield 24, 3) := by decide +kernel
theorem dX0_takeOver_60 : decode cX0_takeOver 60 = .ok (.iconst 0, 1) := by decide +kernel
theorem dX0_takeOver_61 : decode cX0_takeOver 61 = .ok (.aload_n 0, 1) := by decide +kernel
theorem dX0_takeOver_62 : decode cX0_takeOver 62 = .ok (.getfield 24, 3) := by decide +kernel
theorem dX0_takeOver_65 : decode cX0_takeOver 65 = .ok (.iconst 0, 1) := by decide +kernel
theorem dX0_takeOver_66 : decode cX0_takeOver 66 = .ok (.iconst 4, 1) := by decide +kernel
theorem dX0_takeOver_67 : decode cX0_takeOver 67 = .ok (.invokestatic 44, 3) := by decide +kernel
theorem dX0_takeOver_70 : decode cX0_takeOver 70 = .ok (.aload_n 0, 1) := by decide +kernel
theorem dX0_takeOver_71 : decode cX0_takeOver 71 = .ok (.aload_n 1, 1) := by decide +kernel
theorem dX0_takeOver_72 : decode cX0_takeOver 72 = .ok (.getfield 27, 3) := by decide +kernel
theorem dX0_takeOver_75 : decode cX0_takeOver 75 = .ok (.putfield 27, 3) := by decide +kernel
theorem dX0_takeOver_78 : decode cX0_takeOver 78 = .ok (.aload_n 0, 1) := by decide +kernel
theorem dX0_takeOver_79 : decode cX0_takeOver 79 = .ok (.aload_n 1, 1) := by decide +kernel
theorem dX0_takeOver_80 : decode cX0_takeOver 80 = .ok (.getfield 31, 3) := by decide +kernel
theorem dX0_takeOver_83 : decode cX0_takeOver 83 = .ok (.putfield 31, 3) := by decide +kernel
theorem dX0_takeOver_86 : decode cX0_takeOver 86 = .ok (.aload_n 0, 1) := by decide +kernel
theorem dX0_takeOver_87 : decode cX0_takeOver 87 = .ok (.aload_n 1, 1) := by decide +kernel
theorem dX0_takeOver_88 : decode cX0_takeOver 88 = .ok (.getfield 34, 3) := by decide +kernel
theorem dX0_takeOver_91 : decode cX0_takeOver 91 = .ok (.putfield 34, 3) := by decide +kernel
theorem dX0_takeOver_94 : decode cX0_takeOver 94 = .ok (.aload_n 0, 1) := by decide +kernel
theorem dX0_takeOver_95 : decode cX0_takeOver 95 = .ok (.aload_n 1, 1) := by decide +kernel
theorem dX0_takeOver_96 : decode cX0_takeOver 96 = .ok (.getfield 37, 3) := by decide +kernel
theorem dX0_takeOver_99 : decode cX0_takeOver 99 = .ok (.putfield 37, 3) := by decide +kernel
theorem dX0_takeOver_102 : decode cX0_takeOver 102 = .ok (.return_, 1) := by decide +kernel
theorem dX0_fast_0 : decode cX0_fast 0 = .ok (.iload_n 2, 1) := by decide +kernel
theorem dX0_fast_1 : decode cX0_fast 1 = .ok (.ifCond .le 11, 3) := by decide +kernel
theorem dX0_fast_4 : decode cX0_fast 4 = .ok (.aload_n 0, 1) := by decide +kernel
theorem dX0_fast_5 : decode cX0_fast 5 = .ok (.iload_n 1, 1) := by decide +kernel
theorem dX0_fast_6 : decode cX0_fast 6 = .ok (.invokevirtual 40, 3) := by decide +kernel
theorem dX0_fast_9 : decode cX0_fast 9 = .ok (.ifCond .ne 7, 3) := by decide +kernel
theorem dX0_fast_12 : decode cX0_fast 12 = .ok (.iconst 0, 1) := by decide +kernel
theorem dX0_fast_13 : decode cX0_fast 13 = .ok (.goto 24, 3) := by decide +kernel
theorem dX0_fast_16 : decode cX0_fast 16 = .ok (.iconst 1, 1) := by decide +kernel
theorem dX0_fast_17 : decode cX0_fast 17 = .ok (.aload_n 0, 1) := by decide +kernel
theorem dX0_fast_18 : decode cX0_fast 18 = .ok (.getfield 9, 3) := by decide +kernel
theorem dX0_fast_21 : decode cX0_fast 21 = .ok (.iload_n 1, 1) := by decide +kernel
theorem dX0_fast_22 : decode cX0_fast 22 = .ok (.iaload, 1) := by decide +kernel
theorem dX0_fast_23 : decode cX0_fast 23 = .ok (.aload_n 0, 1) := by decide +kernel
theorem dX0_fast_24 : decode cX0_fast 24 = .ok (.getfield 15, 3) := by decide +kernel
theorem dX0_fast_27 : decode cX0_fast 27 = .ok (.iload_n 1, 1) := by decide +kernel
theorem dX0_fast_28 : decode cX0_fast 28 = .ok (.iaload, 1) := by decide +kernel
theorem dX0_fast_29 : decode cX0_fast 29 = .ok (.iload_n 2, 1) := by decide +kernel
theorem dX0_fast_30 : decode cX0_fast 30 = .ok (.iload_n 3, 1) := by decide +kernel
theorem dX0_fast_31 : decode cX0_fast 31 = .ok (.invokestatic 50, 3) := by decide +kernel
theorem dX0_fast_34 : decode cX0_fast 34 = .ok (.invokestatic 54, 3) := by decide +kernel
theorem dX0_fast_37 : decode cX0_fast 37 = .ok (.ireturn, 1) := by decide +kernel
theorem dX0_fastOf_0 : decode cX0_fastOf 0 = .ok (.iload_n 2, 1) := by decide +kernel
theorem dX0_fastOf_1 : decode cX0_fastOf 1 = .ok (.iload_n 2, 1) := by decide +kernel
theorem dX0_fastOf_2 : decode cX0_fastOf 2 = .ok (.iadd, 1) := by decide +kernel
theorem dX0_fastOf_3 : decode cX0_fastOf 3 = .ok (.istore 4, 2) := by decide +kernel
theorem dX0_fastOf_5 : decode cX0_fastOf 5 = .ok (.iload_n 3, 1) := by decide +kernel
theorem dX0_fastOf_6 : decode cX0_fastOf 6 = .ok (.iload_n 1, 1) := by decide +kernel
theorem dX0_fastOf_7 : decode cX0_fastOf 7 = .ok (.if_icmp .le 9, 3) := by decide +kernel
theorem dX0_fastOf_10 : decode cX0_fastOf 10 = .ok (.iload_n 2, 1) := by decide +kernel
theorem dX0_fastOf_11 : decode cX0_fastOf 11 = .ok (.iconst 1, 1) := by decide +kernel
theorem dX0_fastOf_12 : decode cX0_fastOf 12 = .ok (.isub, 1) := by decide +kernel
theorem dX0_fastOf_13 : decode cX0_fastOf 13 = .ok (.goto 4, 3) := by decide +kernel
theorem dX0_fastOf_16 : decode cX0_fastOf 16 = .ok (.iload_n 2, 1) := by decide +kernel
theorem dX0_fastOf_17 : decode cX0_fastOf 17 = .ok (.istore 5, 2) := by decide +kernel
theorem dX0_fastOf_19 : decode cX0_fastOf 19 = .ok (.iload_n 0, 1) := by decide +kernel
theorem dX0_fastOf_20 : decode cX0_fastOf 20 = .ok (.tableswitch 78 1 5 #[36, 39, 42, 59, 71], 36) := by decide +kernel
theorem dX0_fastOf_56 : decode cX0_fastOf 56 = .ok (.iload 4, 2) := by decide +kernel
theorem dX0_fastOf_58 : decode cX0_fastOf 58 = .ok (.ireturn, 1) := by decide +kernel
theorem dX0_fastOf_59 : decode cX0_fastOf 59 = .ok (.iload 5, 2) := by decide +kernel
theorem dX0_fastOf_61 : decode cX0_fastOf 61 = .ok (.ireturn, 1) := by decide +kernel
theorem dX0_fastOf_62 : decode cX0_fastOf 62 = .ok (.iload_n 2, 1) := by decide +kernel
theorem dX0_fastOf_63 : decode cX0_fastOf 63 = .ok (.iconst 2, 1) := by decide +kernel
theorem dX0_fastOf_64 : decode cX0_fastOf 64 = .ok (.if_icmp .ne 12, 3) := by decide +kernel
theorem dX0_fastOf_67 : decode cX0_fastOf 67 = .ok (.iload 4, 2) := by decide +kernel
theorem dX0_fastOf_69 : decode cX0_fastOf 69 = .ok (.iload_n 1, 1) := by decide +kernel
theorem dX0_fastOf_70 : decode cX0_fastOf 70 = .ok (.iconst 3, 1) := by decide +kernel
theorem dX0_fastOf_71 : decode cX0_fastOf 71 = .ok (.irem, 1) := by decide +kernel
theorem dX0_fastOf_72 : decode cX0_fastOf 72 = .ok (.iadd, 1) := by decide +kernel
theorem dX0_fastOf_73 : decode cX0_fastOf 73 = .ok (.goto 5, 3) := by decide +kernel
theorem dX0_fastOf_76 : decode cX0_fastOf 76 = .ok (.iload 4, 2) := by decide +kernel
theorem dX0_fastOf_78 : decode cX0_fastOf 78 = .ok (.ireturn, 1) := by decide +kernel
theorem dX0_fastOf_79 : decode cX0_fastOf 79 = .ok (.iload_n 2, 1) := by decide +kernel
theorem dX0_fastOf_80 : decode cX0_fastOf 80 = .ok (.iconst 1, 1) := by decide +kernel
theorem dX0_fastOf_81 : decode cX0_fastOf 81 = .ok (.if_icmp .ne 7, 3) := by decide +kernel
theorem dX0_fastOf_84 : decode cX0_fastOf 84 = .ok (.iconst 1, 1) := by decide +kernel
theorem dX0_fastOf_85 : decode cX0_fastOf 85 = .ok (.goto 5, 3) := by decide +kernel
theorem dX0_fastOf_88 : decode cX0_fastOf 88 = .ok (.iload 5, 2) := by decide +kernel
theorem dX0_fastOf_90 : decode cX0_fastOf 90 = .ok (.ireturn, 1) := by decide +kernel
theorem dX0_fastOf_91 : decode cX0_fastOf 91 = .ok (.iload 4, 2) := by decide +kernel
theorem dX0_fastOf_93 : decode cX0_fastOf 93 = .ok (.iload_n 3, 1) := by decide +kernel
theorem dX0_fastOf_94 : decode cX0_fastOf 94 = .ok (.iconst 2, 1) := by decide +kernel
theorem dX0_fastOf_95 : decode cX0_fastOf 95 = .ok (.idiv, 1) := by decide +kernel
theorem dX0_fastOf_96 : decode cX0_fastOf 96 = .ok (.isub, 1) := by decide +kernel
theorem dX0_fastOf_97 : decode cX0_fastOf 97 = .ok (.ireturn, 1) := by decide +kernel
theorem dX0_fastOf_98 : decode cX0_fastOf 98 = .ok (.iload_n 2, 1) := by decide +kernel
theorem dX0_fastOf_99 : decode cX0_fastOf 99 = .ok (.ireturn, 1) := by decide +kernel
theorem dX0_ash_0 : decode cX0_ash 0 = .ok (.aload_n 0, 1) := by decide +kernel
theorem dX0_ash_1 : decode cX0_ash 1 = .ok (.iload_n 1, 1) := by decide +kernel
theorem dX0_ash_2 : decode cX0_ash 2 = .ok (.invokevirtual 40, 3) := by decide +kernel
theorem dX0_ash_5 : decode cX0_ash 5 = .ok (.ifCond .eq 26, 3) := by decide +kernel
theorem dX0_ash_8 : decode cX0_ash 8 = .ok (.iconst 0, 1) := by decide +kernel
theorem dX0_ash_9 : decode cX0_ash 9 = .ok (.aload_n 0, 1) := by decide +kernel
theorem dX0_ash_10 : decode cX0_ash 10 = .ok (.getfield 9, 3) := by decide +kernel
theorem dX0_ash_13 : decode cX0_ash 13 = .ok (.iload_n 1, 1) := by decide +kernel
theorem dX0_ash_14 : decode cX0_ash 14 = .ok (.iaload, 1) := by decide +kernel
theorem dX0_ash_15 : decode cX0_ash 15 = .ok (.aload_n 0, 1) := by decide +kernel
theorem dX0_ash_16 : decode cX0_ash 16 = .ok (.getfield 15, 3) := by decide +kernel
theorem dX0_ash_19 : decode cX0_ash 19 = .ok (.iload_n 1, 1) := by decide +kernel
theorem dX0_ash_20 : decode cX0_ash 20 = .ok (.iaload, 1) := by decide +kernel
theorem dX0_ash_21 : decode cX0_ash 21 = .ok (.iload_n 2, 1) := by decide +kernel
theorem dX0_ash_22 : decode cX0_ash 22 = .ok (.invokestatic 60, 3) := by decide +kernel
theorem dX0_ash_25 : decode cX0_ash 25 = .ok (.invokestatic 54, 3) := by decide +kernel
theorem dX0_ash_28 : decode cX0_ash 28 = .ok (.goto 4, 3) := by decide +kernel
theorem dX0_ash_31 : decode cX0_ash 31 = .ok (.iconst 0, 1) := by decide +kernel
theorem dX0_ash_32 : decode cX0_ash 32 = .ok (.ireturn, 1) := by decide +kernel
theorem dX0_ashOf_0 : decode cX0_ashOf 0 = .ok (.iload_n 2, 1) := by decide +kernel
theorem dX0_ashOf_1 : decode cX0_ashOf 1 = .ok (.iconst 2, 1) := by decide +kernel
theorem dX0_ashOf_2 : decode cX0_ashOf 2 = .ok (.idiv, 1) := by decide +kernel
theorem dX0_ashOf_3 : decode cX0_ashOf 3 = .ok (.istore_n 3, 1) := by decide +kernel
theorem dX0_ashOf_4 : decode cX0_ashOf 4 = .ok (.iload_n 2, 1) := by decide +kernel
theorem dX0_ashOf_5 : decode cX0_ashOf 5 = .ok (.iload_n 1, 1) := by decide +kernel
theorem dX0_ashOf_6 : decode cX0_ashOf 6 = .ok (.iadd, 1) := by decide +kernel
theorem dX0_ashOf_7 : decode cX0_ashOf 7 = .ok (.istore 4, 2) := by decide +kernel
theorem dX0_ashOf_9 : decode cX0_ashOf 9 = .ok (.iload_n 0, 1) := by decide +kernel
theorem dX0_ashOf_10 : decode cX0_ashOf 10 = .ok (.tableswitch 54 1 5 #[34, 36, 39, 43, 48], 34) := by decide +kernel
theorem dX0_ashOf_44 : decode cX0_ashOf 44 = .ok (.iload_n 3, 1) := by decide +kernel
theorem dX0_ashOf_45 : decode cX0_ashOf 45 = .ok (.ireturn, 1) := by decide +kernel
theorem dX0_ashOf_46 : decode cX0_ashOf 46 = .ok (.iload 4, 2) := by decide +kernel
theorem dX0_ashOf_48 : decode cX0_ashOf 48 = .ok (.ireturn, 1) := by decide +kernel
theorem dX0_ashOf_49 : decode cX0_ashOf 49 = .ok (.iload_n 3, 1) := by decide +kernel
theorem dX0_ashOf_50 : decode cX0_ashOf 50 = .ok (.iload_n 1, 1) := by decide +kernel
theorem dX0_ashOf_51 : decode cX0_ashOf 51 = .ok (.isub, 1) := by decide +kernel
theorem dX0_ashOf_52 : decode cX0_ashOf 52 = .ok (.ireturn, 1) := by decide +kernel
theorem dX0_ashOf_53 : decode cX0_ashOf 53 = .ok (.iconst 2, 1) := by decide +kernel
theorem dX0_ashOf_54 : decode cX0_ashOf 54 = .ok (.iload 4, 2) := by decide +kernel
theorem dX0_ashOf_56 : decode cX0_ashOf 56 = .ok (.imul, 1) := by decide +kernel
theorem dX0_ashOf_57 : decode cX0_ashOf 57 = .ok (.ireturn, 1) := by decide +kernel
theorem dX0_ashOf_58 : decode cX0_ashOf 58 = .ok (.iload_n 3, 1) := by decide +kernel
theorem dX0_ashOf_59 : decode cX0_ashOf 59 = .ok (.iload_n 2, 1) := by decide +kernel
theorem dX0_ashOf_60 : decode cX0_ashOf 60 = .ok (.iconst 3, 1) := by decide +kernel
theorem dX0_ashOf_61 : decode cX0_ashOf 61 = .ok (.idiv, 1) := by decide +kernel
theorem dX0_ashOf_62 : decode cX0_ashOf 62 = .ok (.iadd, 1) := by decide +kernel
theorem dX0_ashOf_63 : decode cX0_ashOf 63 = .ok (.ireturn, 1) := by decide +kernel
theorem dX0_ashOf_64 : decode cX0_ashOf 64 = .ok (.iload_n 2, 1) := by decide +kernel
theorem dX0_ashOf_65 : decode cX0_ashOf 65 = .ok (.ireturn, 1) := by decide +kernel
theorem dX0_lasts_0 : decode cX0_lasts 0 = .ok (.aload_n 0, 1) := by decide +kernel
theorem dX0_lasts_1 : decode cX0_lasts 1 = .ok (.iload_n 1, 1) := by decide +kernel
theorem dX0_lasts_2 : decode cX0_lasts 2 = .ok (.iload_n 2, 1) := by decide +kernel
theorem dX0_lasts_3 : decode cX0_lasts 3 = .ok (.iload_n 3, 1) := by decide +kernel
theorem dX0_lasts_4 : decode cX0_lasts 4 = .ok (.invokevirtual 64, 3) := by decide +kernel
theorem dX0_lasts_7 : decode cX0_lasts 7 = .ok (.istore 4, 2) := by decide +kernel
theorem dX0_lasts_9 : decode cX0_lasts 9 = .ok (.iload 4, 2) := by decide +kernel
theorem dX0_lasts_11 : decode cX0_lasts 11 = .ok (.ifCond .gt 7, 3) := by decide +kernel
theorem dX0_lasts_14 : decode cX0_lasts 14 = .ok (.iconst 0, 1) := by decide +kernel
theorem dX0_lasts_15 : decode cX0_lasts 15 = .ok (.goto 17, 3) := by decide +kernel
theorem dX0_lasts_18 : decode cX0_lasts 18 = .ok (.aload_n 0, 1) := by decide +kernel
theorem dX0_lasts_19 : decode cX0_lasts 19 = .ok (.getfield 18, 3) := by decide +kernel
theorem dX0_lasts_22 : decode cX0_lasts 22 = .ok (.iload_n 1, 1) := by decide +kernel
theorem dX0_lasts_23 : decode cX0_lasts 23 = .ok (.iaload, 1) := by decide +kernel
theorem dX0_lasts_24 : decode cX0_lasts 24 = .ok (.iload 4, 2) := by decide +kernel
theorem dX0_lasts_26 : decode cX0_lasts 26 = .ok (.iadd, 1) := by decide +kernel
theorem dX0_lasts_27 : decode cX0_lasts 27 = .ok (.iconst 1, 1) := by decide +kernel
theorem dX0_lasts_28 : decode cX0_lasts 28 = .ok (.isub, 1) := by decide +kernel
theorem dX0_lasts_29 : decode cX0_lasts 29 = .ok (.iload 4, 2) := by decide +kernel
theorem dX0_lasts_31 : decode cX0_lasts 31 = .ok (.idiv, 1) := by decide +kernel
theorem dX0_lasts_32 : decode cX0_lasts 32 = .ok (.ireturn, 1) := by decide +kernel
theorem dX0_kindles_0 : decode cX0_kindles 0 = .ok (.aload_n 0, 1) := by decide +kernel
theorem dX0_kindles_1 : decode cX0_kindles 1 = .ok (.iload_n 1, 1) := by decide +kernel
theorem dX0_kindles_2 : decode cX0_kindles 2 = .ok (.invokevirtual 40, 3) := by decide +kernel
theorem dX0_kindles_5 : decode cX0_kindles 5 = .ok (.ifCond .eq 24, 3) := by decide +kernel
theorem dX0_kindles_8 : decode cX0_kindles 8 = .ok (.aload_n 0, 1) := by decide +kernel
theorem dX0_kindles_9 : decode cX0_kindles 9 = .ok (.getfield 18, 3) := by decide +kernel
theorem dX0_kindles_12 : decode cX0_kindles 12 = .ok (.iload_n 1, 1) := by decide +kernel
theorem dX0_kindles_13 : decode cX0_kindles 13 = .ok (.iaload, 1) := by decide +kernel
theorem dX0_kindles_14 : decode cX0_kindles 14 = .ok (.ifCond .eq 15, 3) := by decide +kernel
theorem dX0_kindles_17 : decode cX0_kindles 17 = .ok (.aload_n 0, 1) := by decide +kernel
theorem dX0_kindles_18 : decode cX0_kindles 18 = .ok (.getfield 21, 3) := by decide +kernel
theorem dX0_kindles_21 : decode cX0_kindles 21 = .ok (.iload_n 1, 1) := by decide +kernel
theorem dX0_kindles_22 : decode cX0_kindles 22 = .ok (.iaload, 1) := by decide +kernel
theorem dX0_kindles_23 : decode cX0_kindles 23 = .ok (.iload_n 2, 1) := by decide +kernel
theorem dX0_kindles_24 : decode cX0_kindles 24 = .ok (.iadd, 1) := by decide +kernel
theorem dX0_kindles_25 : decode cX0_kindles 25 = .ok (.iconst 2, 1) := by decide +kernel
theorem dX0_kindles_26 : decode cX0_kindles 26 = .ok (.if_icmp .le 5, 3) := by decide +kernel
theorem dX0_kindles_29 : decode cX0_kindles 29 = .ok (.iconst 0, 1) := by decide +kernel
theorem dX0_kindles_30 : decode cX0_kindles 30 = .ok (.ireturn, 1) := by decide +kernel
theorem dX0_kindles_31 : decode cX0_kindles 31 = .ok (.aload_n 0, 1) := by decide +kernel
theorem dX0_kindles_32 : decode cX0_kindles 32 = .ok (.getfield 21, 3) := by decide +kernel
theorem dX0_kindles_35 : decode cX0_kindles 35 = .ok (.iload_n 1, 1) := by decide +kernel
theorem dX0_kindles_36 : decode cX0_kindles 36 = .ok (.dup2, 1) := by decide +kernel
theorem dX0_kindles_37 : decode cX0_kindles 37 = .ok (.iaload, 1) := by decide +kernel
theorem dX0_kindles_38 : decode cX0_kindles 38 = .ok (.iload_n 2, 1) := by decide +kernel
theorem dX0_kindles_39 : decode cX0_kindles 39 = .ok (.iadd, 1) := by decide +kernel
theorem dX0_kindles_40 : decode cX0_kindles 40 = .ok (.iastore, 1) := by decide +kernel
theorem dX0_kindles_41 : decode cX0_kindles 41 = .ok (.iconst 1, 1) := by decide +kernel
theorem dX0_kindles_42 : decode cX0_kindles 42 = .ok (.ireturn, 1) := by decide +kernel
theorem dX0_pass_0 : decode cX0_pass 0 = .ok (.iconst 0, 1) := by decide +kernel
theorem dX0_pass_1 : decode cX0_pass 1 = .ok (.istore_n 2, 1) := by decide +kernel
theorem dX0_pass_2 : decode cX0_pass 2 = .ok (.iconst 0, 1) := by decide +kernel
theorem dX0_pass_3 : decode cX0_pass 3 = .ok (.istore_n 3, 1) := by decide +kernel
theorem dX0_pass_4 : decode cX0_pass 4 = .ok (.iload_n 3, 1) := by decide +kernel
theorem dX0_pass_5 : decode cX0_pass 5 = .ok (.aload_n 0, 1) := by decide +kernel
theorem dX0_pass_6 : decode cX0_pass 6 = .ok (.getfield 27, 3) := by decide +kernel
theorem dX0_pass_9 : decode cX0_pass 9 = .ok (.if_icmp .ge 30, 3) := by decide +kernel
theorem dX0_pass_12 : decode cX0_pass 12 = .ok (.aload_n 0, 1) := by decide +kernel
theorem dX0_pass_13 : decode cX0_pass 13 = .ok (.getfield 21, 3) := by decide +kernel
theorem dX0_pass_16 : decode cX0_pass 16 = .ok (.iload_n 3, 1) := by decide +kernel
theorem dX0_pass_17 : decode cX0_pass 17 = .ok (.iaload, 1) := by decide +kernel
theorem dX0_pass_18 : decode cX0_pass 18 = .ok (.ifCond .le 15, 3) := by decide +kernel
theorem dX0_pass_21 : decode cX0_pass 21 = .ok (.aload_n 0, 1) := by decide +kernel
theorem dX0_pass_22 : decode cX0_pass 22 = .ok (.iload_n 3, 1) := by decide +kernel
theorem dX0_pass_23 : decode cX0_pass 23 = .ok (.iload_n 1, 1) := by decide +kernel
theorem dX0_pass_24 : decode cX0_pass 24 = .ok (.invokevirtual 67, 3) := by decide +kernel
theorem dX0_pass_27 : decode cX0_pass 27 = .ok (.ifCond .eq 6, 3) := by decide +kernel
theorem dX0_pass_30 : decode cX0_pass 30 = .ok (.iinc 2 1, 3) := by decide +kernel
theorem dX0_pass_33 : decode cX0_pass 33 = .ok (.iinc 3 1, 3) := by decide +kernel
theorem dX0_pass_36 : decode cX0_pass 36 = .ok (.goto (-32), 3) := by decide +kernel
theorem dX0_pass_39 : decode cX0_pass 39 = .ok (.aload_n 0, 1) := by decide +kernel
theorem dX0_pass_40 : decode cX0_pass 40 = .ok (.sipush 9999, 3) := by decide +kernel
theorem dX0_pass_43 : decode cX0_pass 43 = .ok (.aload_n 0, 1) := by decide +kernel
theorem dX0_pass_44 : decode cX0_pass 44 = .ok (.getfield 34, 3) := by decide +kernel
theorem dX0_pass_47 : decode cX0_pass 47 = .ok (.iload_n 1, 1) := by decide +kernel
theorem dX0_pass_48 : decode cX0_pass 48 = .ok (.iadd, 1) := by decide +kernel
theorem dX0_pass_49 : decode cX0_pass 49 = .ok (.invokestatic 71, 3) := by decide +kernel
theorem dX0_pass_52 : decode cX0_pass 52 = .ok (.putfield 34, 3) := by decide +kernel
theorem dX0_pass_55 : decode cX0_pass 55 = .ok (.iload_n 2, 1) := by decide +kernel
theorem dX0_pass_56 : decode cX0_pass 56 = .ok (.ireturn, 1) := by decide +kernel
theorem dX0_goesOut_0 : decode cX0_goesOut 0 = .ok (.aload_n 0, 1) := by decide +kernel
theorem dX0_goesOut_1 : decode cX0_goesOut 1 = .ok (.getfield 18, 3) := by decide +kernel
theorem dX0_goesOut_4 : decode cX0_goesOut 4 = .ok (.iload_n 1, 1) := by decide +kernel
theorem dX0_goesOut_5 : decode cX0_goesOut 5 = .ok (.iaload, 1) := by decide +kernel
theorem dX0_goesOut_6 : decode cX0_goesOut 6 = .ok (.iload_n 2, 1) := by decide +kernel
theorem dX0_goesOut_7 : decode cX0_goesOut 7 = .ok (.aload_n 0, 1) := by decide +kernel
theorem dX0_goesOut_8 : decode cX0_goesOut 8 = .ok (.iload_n 1, 1) := by decide +kernel
theorem dX0_goesOut_9 : decode cX0_goesOut 9 = .ok (.aload_n 0, 1) := by decide +kernel
theorem dX0_goesOut_10 : decode cX0_goesOut 10 = .ok (.getfield 21, 3) := by decide +kernel
theorem dX0_goesOut_13 : decode cX0_goesOut 13 = .ok (.iload_n 1, 1) := by decide +kernel
theorem dX0_goesOut_14 : decode cX0_goesOut 14 = .ok (.iaload, 1) := by decide +kernel
theorem dX0_goesOut_15 : decode cX0_goesOut 15 = .ok (.aload_n 0, 1) := by decide +kernel
theorem dX0_goesOut_16 : decode cX0_goesOut 16 = .ok (.getfield 31, 3) := by decide +kernel
theorem dX0_goesOut_19 : decode cX0_goesOut 19 = .ok (.invokevirtual 64, 3) := by decide +kernel
theorem dX0_goesOut_22 : decode cX0_goesOut 22 = .ok (.imul, 1) := by decide +kernel
theorem dX0_goesOut_23 : decode cX0_goesOut 23 = .ok (.invokestatic 71, 3) := by decide +kernel
theorem dX0_goesOut_26 : decode cX0_goesOut 26 = .ok (.istore_n 3, 1) := by decide +kernel
theorem dX0_goesOut_27 : decode cX0_goesOut 27 = .ok (.aload_n 0, 1) := by decide +kernel
theorem dX0_goesOut_28 : decode cX0_goesOut 28 = .ok (.getfield 18, 3) := by decide +kernel
theorem dX0_goesOut_31 : decode cX0_goesOut 31 = .ok (.iload_n 1, 1) := by decide +kernel
theorem dX0_goesOut_32 : decode cX0_goesOut 32 = .ok (.dup2, 1) := by decide +kernel
theorem dX0_goesOut_33 : decode cX0_goesOut 33 = .ok (.iaload, 1) := by decide +kernel
theorem dX0_goesOut_34 : decode cX0_goesOut 34 = .ok (.iload_n 3, 1) := by decide +kernel
theorem dX0_goesOut_35 : decode cX0_goesOut 35 = .ok (.isub, 1) := by decide +kernel
theorem dX0_goesOut_36 : decode cX0_goesOut 36 = .ok (.iastore, 1) := by decide +kernel
theorem dX0_goesOut_37 : decode cX0_goesOut 37 = .ok (.aload_n 0, 1) := by decide +kernel
theorem dX0_goesOut_38 : decode cX0_goesOut 38 = .ok (.getfield 24, 3) := by decide +kernel
theorem dX0_goesOut_41 : decode cX0_goesOut 41 = .ok (.iload_n 1, 1) := by decide +kernel
theorem dX0_goesOut_42 : decode cX0_goesOut 42 = .ok (.sipush 999, 3) := by decide +kernel
theorem dX0_goesOut_45 : decode cX0_goesOut 45 = .ok (.aload_n 0, 1) := by decide +kernel
theorem dX0_goesOut_46 : decode cX0_goesOut 46 = .ok (.getfield 24, 3) := by decide +kernel
theorem dX0_goesOut_49 : decode cX0_goesOut 49 = .ok (.iload_n 1, 1) := by decide +kernel
theorem dX0_goesOut_50 : decode cX0_goesOut 50 = .ok (.iaload, 1) := by decide +kernel
theorem dX0_goesOut_51 : decode cX0_goesOut 51 = .ok (.iload_n 3, 1) := by decide +kernel
theorem dX0_goesOut_52 : decode cX0_goesOut 52 = .ok (.iadd, 1) := by decide +kernel
theorem dX0_goesOut_53 : decode cX0_goesOut 53 = .ok (.invokestatic 71, 3) := by decide +kernel
theorem dX0_goesOut_56 : decode cX0_goesOut 56 = .ok (.iastore, 1) := by decide +kernel
theorem dX0_goesOut_57 : decode cX0_goesOut 57 = .ok (.aload_n 0, 1) := by decide +kernel
theorem dX0_goesOut_58 : decode cX0_goesOut 58 = .ok (.getfield 18, 3) := by decide +kernel
theorem dX0_goesOut_61 : decode cX0_goesOut 61 = .ok (.iload_n 1, 1) := by decide +kernel
theorem dX0_goesOut_62 : decode cX0_goesOut 62 = .ok (.iaload, 1) := by decide +kernel
theorem dX0_goesOut_63 : decode cX0_goesOut 63 = .ok (.ifCond .le 5, 3) := by decide +kernel
theorem dX0_goesOut_66 : decode cX0_goesOut 66 = .ok (.iconst 0, 1) := by decide +kernel
theorem dX0_goesOut_67 : decode cX0_goesOut 67 = .ok (.ireturn, 1) := by decide +kernel
theorem dX0_goesOut_68 : decode cX0_goesOut 68 = .ok (.aload_n 0, 1) := by decide +kernel
theorem dX0_goesOut_69 : decode cX0_goesOut 69 = .ok (.getfield 21, 3) := by decide +kernel
theorem dX0_goesOut_72 : decode cX0_goesOut 72 = .ok (.iload_n 1, 1) := by decide +kernel
theorem dX0_goesOut_73 : decode cX0_goesOut 73 = .ok (.iconst 0, 1) := by decide +kernel
theorem dX0_goesOut_74 : decode cX0_goesOut 74 = .ok (.iastore, 1) := by decide +kernel
theorem dX0_goesOut_75 : decode cX0_goesOut 75 = .ok (.iconst 1, 1) := by decide +kernel
theorem dX0_goesOut_76 : decode cX0_goesOut 76 = .ok (.ireturn, 1) := by decide +kernel
theorem dX0_unlit_0 : decode cX0_unlit 0 = .ok (.iload_n 1, 1) := by decide +kernel
theorem dX0_unlit_1 : decode cX0_unlit 1 = .ok (.ifCond .lt 13, 3) := by decide +kernel
theorem dX0_unlit_4 : decode cX0_unlit 4 = .ok (.iload_n 1, 1) := by decide +kernel
theorem dX0_unlit_5 : decode cX0_unlit 5 = .ok (.iconst 1, 1) := by decide +kernel
theorem dX0_unlit_6 : decode cX0_unlit 6 = .ok (.aload_n 0, 1) := by decide +kernel
theorem dX0_unlit_7 : decode cX0_unlit 7 = .ok (.getfield 27, 3) := by decide +kernel
theorem dX0_unlit_10 : decode cX0_unlit 10 = .ok (.ishl, 1) := by decide +kernel
theorem dX0_unlit_11 : decode cX0_unlit 11 = .ok (.if_icmp .lt 5, 3) := by decide +kernel
theorem dX0_unlit_14 : decode cX0_unlit 14 = .ok (.iconst 0, 1) := by decide +kernel
theorem dX0_unlit_15 : decode cX0_unlit 15 = .ok (.ireturn, 1) := by decide +kernel
theorem dX0_unlit_16 : decode cX0_unlit 16 = .ok (.iconst 0, 1) := by decide +kernel
theorem dX0_unlit_17 : decode cX0_unlit 17 = .ok (.istore_n 2, 1) := by decide +kernel
theorem dX0_unlit_18 : decode cX0_unlit 18 = .ok (.iload_n 2, 1) := by decide +kernel
theorem dX0_unlit_19 : decode cX0_unlit 19 = .ok (.aload_n 0, 1) := by decide +kernel
theorem dX0_unlit_20 : decode cX0_unlit 20 = .ok (.getfield 27, 3) := by decide +kernel
theorem dX0_unlit_23 : decode cX0_unlit 23 = .ok (.if_icmp .ge 38, 3) := by decide +kernel
theorem dX0_unlit_26 : decode cX0_unlit 26 = .ok (.iload_n 1, 1) := by decide +kernel
theorem dX0_unlit_27 : decode cX0_unlit 27 = .ok (.iload_n 2, 1) := by decide +kernel
theorem dX0_unlit_28 : decode cX0_unlit 28 = .ok (.ishr, 1) := by decide +kernel
theorem dX0_unlit_29 : decode cX0_unlit 29 = .ok (.iconst 1, 1) := by decide +kernel
theorem dX0_unlit_30 : decode cX0_unlit 30 = .ok (.iand, 1) := by decide +kernel
theorem dX0_unlit_31 : decode cX0_unlit 31 = .ok (.iconst 1, 1) := by decide +kernel
theorem dX0_unlit_32 : decode cX0_unlit 32 = .ok (.if_icmp .ne 23, 3) := by decide +kernel
theorem dX0_unlit_35 : decode cX0_unlit 35 = .ok (.aload_n 0, 1) := by decide +kernel
theorem dX0_unlit_36 : decode cX0_unlit 36 = .ok (.getfield 18, 3) := by decide +kernel
theorem dX0_unlit_39 : decode cX0_unlit 39 = .ok (.iload_n 2, 1) := by decide +kernel
theorem dX0_unlit_40 : decode cX0_unlit 40 = .ok (.iaload, 1) := by decide +kernel
theorem dX0_unlit_41 : decode cX0_unlit 41 = .ok (.ifCond .eq 12, 3) := by decide +kernel
theorem dX0_unlit_44 : decode cX0_unlit 44 = .ok (.aload_n 0, 1) := by decide +kernel
theorem dX0_unlit_45 : decode cX0_unlit 45 = .ok (.getfield 21, 3) := by decide +kernel
theorem dX0_unlit_48 : decode cX0_unlit 48 = .ok (.iload_n 2, 1) := by decide +kernel
theorem dX0_unlit_49 : decode cX0_unlit 49 = .ok (.iaload, 1) := by decide +kernel
theorem dX0_unlit_50 : decode cX0_unlit 50 = .ok (.ifCond .le 5, 3) := by decide +kernel
theorem dX0_unlit_53 : decode cX0_unlit 53 = .ok (.iconst 0, 1) := by decide +kernel
theorem dX0_unlit_54 : decode cX0_unlit 54 = .ok (.ireturn, 1) := by decide +kernel
theorem dX0_unlit_55 : decode cX0_unlit 55 = .ok (.iinc 2 1, 3) := by decide +kernel
theorem dX0_unlit_58 : decode cX0_unlit 58 = .ok (.goto (-40), 3) := by decide +kernel
theorem dX0_unlit_61 : decode cX0_unlit 61 = .ok (.iconst 1, 1) := by decide +kernel
theorem dX0_unlit_62 : decode cX0_unlit 62 = .ok (.ireturn, 1) := by decide +kernel
theorem dX0_burning_0 : decode cX0_burning 0 = .ok (.iconst 0, 1) := by decide +kernel
theorem dX0_burning_1 : decode cX0_burning 1 = .ok (.istore_n 1, 1) := by decide +kernel
theorem dX0_burning_2 : decode cX0_burning 2 = .ok (.iconst 0, 1) := by decide +kernel
theorem dX0_burning_3 : decode cX0_burning 3 = .ok (.istore_n 2, 1) := by decide +kernel
theorem dX0_burning_4 : decode cX0_burning 4 = .ok (.iload_n 2, 1) := by decide +kernel
theorem dX0_burning_5 : decode cX0_burning 5 = .ok (.aload_n 0, 1) := by decide +kernel
theorem dX0_burning_6 : decode cX0_burning 6 = .ok (.getfield 27, 3) := by decide +kernel
theorem dX0_burning_9 : decode cX0_burning 9 = .ok (.if_icmp .ge 26, 3) := by decide +kernel
theorem dX0_burning_12 : decode cX0_burning 12 = .ok (.iload_n 1, 1) := by decide +kernel
theorem dX0_burning_13 : decode cX0_burning 13 = .ok (.aload_n 0, 1) := by decide +kernel
theorem dX0_burning_14 : decode cX0_burning 14 = .ok (.getfield 21, 3) := by decide +kernel
theorem dX0_burning_17 : decode cX0_burning 17 = .ok (.iload_n 2, 1) := by decide +kernel
theorem dX0_burning_18 : decode cX0_burning 18 = .ok (.iaload, 1) := by decide +kernel
theorem dX0_burning_19 : decode cX0_burning 19 = .ok (.ifCond .le 7, 3) := by decide +kernel
theorem dX0_burning_22 : decode cX0_burning 22 = .ok (.iconst 1, 1) := by decide +kernel
theorem dX0_burning_23 : decode cX0_burning 23 = .ok (.goto 4, 3) := by decide +kernel
theorem dX0_burning_26 : decode cX0_burning 26 = .ok (.iconst 0, 1) := by decide +kernel
theorem dX0_burning_27 : decode cX0_burning 27 = .ok (.iadd, 1) := by decide +kernel
theorem dX0_burning_28 : decode cX0_burning 28 = .ok (.istore_n 1, 1) := by decide +kernel
theorem dX0_burning_29 : decode cX0_burning 29 = .ok (.iinc 2 1, 3) := by decide +kernel
theorem dX0_burning_32 : decode cX0_burning 32 = .ok (.goto (-28), 3) := by decide +kernel
theorem dX0_burning_35 : decode cX0_burning 35 = .ok (.iload_n 1, 1) := by decide +kernel
theorem dX0_burning_36 : decode cX0_burning 36 = .ok (.ireturn, 1) := by decide +kernel
theorem dX0_partsInAll_0 : decode cX0_partsInAll 0 = .ok (.iconst 0, 1) := by decide +kernel
theorem dX0_partsInAll_1 : decode cX0_partsInAll 1 = .ok (.istore_n 1, 1) := by decide +kernel
theorem dX0_partsInAll_2 : decode cX0_partsInAll 2 = .ok (.iconst 0, 1) := by decide +kernel
theorem dX0_partsInAll_3 : decode cX0_partsInAll 3 = .ok (.istore_n 2, 1) := by decide +kernel
theorem dX0_partsInAll_4 : decode cX0_partsInAll 4 = .ok (.iload_n 2, 1) := by decide +kernel
theorem dX0_partsInAll_5 : decode cX0_partsInAll 5 = .ok (.aload_n 0, 1) := by decide +kernel
theorem dX0_partsInAll_6 : decode cX0_partsInAll 6 = .ok (.getfield 27, 3) := by decide +kernel
theorem dX0_partsInAll_9 : decode cX0_partsInAll 9 = .ok (.if_icmp .ge 18, 3) := by decide +kernel
theorem dX0_partsInAll_12 : decode cX0_partsInAll 12 = .ok (.iload_n 1, 1) := by decide +kernel
theorem dX0_partsInAll_13 : decode cX0_partsInAll 13 = .ok (.aload_n 0, 1) := by decide +kernel
theorem dX0_partsInAll_14 : decode cX0_partsInAll 14 = .ok (.getfield 18, 3) := by decide +kernel
theorem dX0_partsInAll_17 : decode cX0_partsInAll 17 = .ok (.iload_n 2, 1) := by decide +kernel
theorem dX0_partsInAll_18 : decode cX0_partsInAll 18 = .ok (.iaload, 1) := by decide +kernel
theorem dX0_partsInAll_19 : decode cX0_partsInAll 19 = .ok (.iadd, 1) := by decide +kernel
theorem dX0_partsInAll_20 : decode cX0_partsInAll 20 = .ok (.istore_n 1, 1) := by decide +kernel
theorem dX0_partsInAll_21 : decode cX0_partsInAll 21 = .ok (.iinc 2 1, 3) := by decide +kernel
theorem dX0_partsInAll_24 : decode cX0_partsInAll 24 = .ok (.goto (-20), 3) := by decide +kernel
theorem dX0_partsInAll_27 : decode cX0_partsInAll 27 = .ok (.iload_n 1, 1) := by decide +kernel
theorem dX0_partsInAll_28 : decode cX0_partsInAll 28 = .ok (.ireturn, 1) := by decide +kernel
theorem dX2_init_0 : decode cX2_init 0 = .ok (.aload_n 0, 1) := by decide +kernel
theorem dX2_init_1 : decode cX2_init 1 = .ok (.invokespecial 3, 3) := by decide +kernel
theorem dX2_init_4 : decode cX2_init 4 = .ok (.aload_n 0, 1) := by decide +kernel
theorem dX2_init_5 : decode cX2_init 5 = .ok (.iconst 0, 1) := by decide +kernel
theorem dX2_init_6 : decode cX2_init 6 = .ok (.putfield 9, 3) := by decide +kernel
theorem dX2_init_9 : decode cX2_init 9 = .ok (.aload_n 0, 1) := by decide +kernel
theorem dX2_init_10 : decode cX2_init 10 = .ok (.iconst 0, 1) := by decide +kernel
theorem dX2_init_11 : decode cX2_init 11 = .ok (.putfield 15, 3) := by decide +kernel
theorem dX2_init_14 : decode cX2_init 14 = .ok (.aload_n 0, 1) := by decide +kernel
theorem dX2_init_15 : decode cX2_init 15 = .ok (.iconst 0, 1) := by decide +kernel
theorem dX2_init_16 : decode cX2_init 16 = .ok (.putfield 18, 3) := by decide +kernel
theorem dX2_init_19 : decode cX2_init 19 = .ok (.aload_n 0, 1) := by decide +kernel
theorem dX2_init_20 : decode cX2_init 20 = .ok (.iconst 0, 1) := by decide +kernel
theorem dX2_init_21 : decode cX2_init 21 = .ok (.putfield 21, 3) := by decide +kernel
theorem dX2_init_24 : decode cX2_init 24 = .ok (.aload_n 0, 1) := by decide +kernel
theorem dX2_init_25 : decode cX2_init 25 = .ok (.sipush 259, 3) := by decide +kernel
theorem dX2_init_28 : decode cX2_init 28 = .ok (.putfield 24, 3) := by decide +kernel
theorem dX2_init_31 : decode cX2_init 31 = .ok (.aload_n 0, 1) := by decide +kernel
theorem dX2_init_32 : decode cX2_init 32 = .ok (.iconst 0, 1) := by decide +kernel
theorem dX2_init_33 : decode cX2_init 33 = .ok (.putfield 27, 3) := by decide +kernel
theorem dX2_init_36 : decode cX2_init 36 = .ok (.aload_n 0, 1) := by decide +kernel
theorem dX2_init_37 : decode cX2_init 37 = .ok (.iconst (-1), 1) := by decide +kernel
theorem dX2_init_38 : decode cX2_init 38 = .ok (.putfield 30, 3) := by decide +kernel
theorem dX2_init_41 : decode cX2_init 41 = .ok (.aload_n 0, 1) := by decide +kernel
theorem dX2_init_42 : decode cX2_init 42 = .ok (.aload_n 1, 1) := by decide +kernel
theorem dX2_init_43 : decode cX2_init 43 = .ok (.putfield 33, 3) := by decide +kernel
theorem dX2_init_46 : decode cX2_init 46 = .ok (.aload_n 0, 1) := by decide +kernel
theorem dX2_init_47 : decode cX2_init 47 = .ok (.iconst 0, 1) := by decide +kernel
theorem dX2_init_48 : decode cX2_init 48 = .ok (.newarray .int, 2) := by decide +kernel
theorem dX2_init_50 : decode cX2_init 50 = .ok (.putfield 37, 3) := by decide +kernel
theorem dX2_init_53 : decode cX2_init 53 = .ok (.return_, 1) := by decide +kernel
theorem dX2_read_0 : decode cX2_read 0 = .ok (.aload_n 0, 1) := by decide +kernel
theorem dX2_read_1 : decode cX2_read 1 = .ok (.aload_n 2, 1) := by decide +kernel
theorem dX2_read_2 : decode cX2_read 2 = .ok (.putfield 37, 3) := by decide +kernel
theorem dX2_read_5 : decode cX2_read 5 = .ok (.aload_n 0, 1) := by decide +kernel
theorem dX2_read_6 : decode cX2_read 6 = .ok (.iload_n 1, 1) := by decide +kernel
theorem dX2_read_7 : decode cX2_read 7 = .ok (.aload_n 0, 1) := by decide +kernel
theorem dX2_read_8 : decode cX2_read 8 = .ok (.getfield 33, 3) := by decide +kernel
theorem dX2_read_11 : decode cX2_read 11 = .ok (.arraylength, 1) := by decide +kernel
theorem dX2_read_12 : decode cX2_read 12 = .ok (.invokestatic 40, 3) := by decide +kernel
theorem dX2_read_15 : decode cX2_read 15 = .ok (.putfield 9, 3) := by decide +kernel
theorem dX2_read_18 : decode cX2_read 18 = .ok (.aload_n 0, 1) := by decide +kernel
theorem dX2_read_19 : decode cX2_read 19 = .ok (.iconst 0, 1) := by decide +kernel
theorem dX2_read_20 : decode cX2_read 20 = .ok (.putfield 15, 3) := by decide +kernel
theorem dX2_read_23 : decode cX2_read 23 = .ok (.aload_n 0, 1) := by decide +kernel
theorem dX2_read_24 : decode cX2_read 24 = .ok (.iconst 0, 1) := by decide +kernel
theorem dX2_read_25 : decode cX2_read 25 = .ok (.putfield 21, 3) := by decide +kernel
theorem dX2_read_28 : decode cX2_read 28 = .ok (.aload_n 0, 1) := by decide +kernel
theorem dX2_read_29 : decode cX2_read 29 = .ok (.iconst (-1), 1) := by decide +kernel
theorem dX2_read_30 : decode cX2_read 30 = .ok (.putfield 30, 3) := by decide +kernel
theorem dX2_read_33 : decode cX2_read 33 = .ok (.aload_n 0, 1) := by decide +kernel
theorem dX2_read_34 : decode cX2_read 34 = .ok (.invokevirtual 46, 3) := by decide +kernel
theorem dX2_read_37 : decode cX2_read 37 = .ok (.iconst 0, 1) := by decide +kernel
theorem dX2_read_38 : decode cX2_read 38 = .ok (.istore 4, 2) := by decide +kernel
theorem dX2_read_40 : decode cX2_read 40 = .ok (.iload 4, 2) := by decide +kernel
theorem dX2_read_42 : decode cX2_read 42 = .ok (.iconst 3, 1) := by decide +kernel
theorem dX2_read_43 : decode cX2_read 43 = .ok (.if_icmp .ge 57, 3) := by decide +kernel
theorem dX2_read_46 : decode cX2_read 46 = .ok (.iload 4, 2) := by decide +kernel
theorem dX2_read_48 : decode cX2_read 48 = .ok (.iconst 1, 1) := by decide +kernel
theorem dX2_read_49 : decode cX2_read 49 = .ok (.iadd, 1) := by decide +kernel
theorem dX2_read_50 : decode cX2_read 50 = .ok (.aload_n 3, 1) := by decide +kernel
theorem dX2_read_51 : decode cX2_read 51 = .ok (.arraylength, 1) := by decide +kernel
theorem dX2_read_52 : decode cX2_read 52 = .ok (.if_icmp .ge 48, 3) := by decide +kernel
theorem dX2_read_55 : decode cX2_read 55 = .ok (.aload_n 0, 1) := by decide +kernel
theorem dX2_read_56 : decode cX2_read 56 = .ok (.sipush 260, 3) := by decide +kernel
theorem dX2_read_59 : decode cX2_read 59 = .ok (.iload 4, 2) := by decide +kernel
theorem dX2_read_61 : decode cX2_read 61 = .ok (.iadd, 1) := by decide +kernel
theorem dX2_read_62 : decode cX2_read 62 = .ok (.invokevirtual 49, 3) := by decide +kernel
theorem dX2_read_65 : decode cX2_read 65 = .ok (.aload_n 3, 1) := by decide +kernel
theorem dX2_read_66 : decode cX2_read 66 = .ok (.iload 4, 2) := by decide +kernel
theorem dX2_read_68 : decode cX2_read 68 = .ok (.aload_n 0, 1) := by decide +kernel
theorem dX2_read_69 : decode cX2_read 69 = .ok (.getfield 15, 3) := by decide +kernel
theorem dX2_read_72 : decode cX2_read 72 = .ok (.iastore, 1) := by decide +kernel
theorem dX2_read_73 : decode cX2_read 73 = .ok (.aload_n 0, 1) := by decide +kernel
theorem dX2_read_74 : decode cX2_read 74 = .ok (.iconst 0, 1) := by decide +kernel
theorem dX2_read_75 : decode cX2_read 75 = .ok (.invokevirtual 53, 3) := by decide +kernel
theorem dX2_read_78 : decode cX2_read 78 = .ok (.aload_n 3, 1) := by decide +kernel
theorem dX2_read_79 : decode cX2_read 79 = .ok (.iload 4, 2) := by decide +kernel
theorem dX2_read_81 : decode cX2_read 81 = .ok (.iconst 1, 1) := by decide +kernel
theorem dX2_read_82 : decode cX2_read 82 = .ok (.iadd, 1) := by decide +kernel
theorem dX2_read_83 : decode cX2_read 83 = .ok (.aload_n 0, 1) := by decide +kernel
theorem dX2_read_84 : decode cX2_read 84 = .ok (.getfield 15, 3) := by decide +kernel
theorem dX2_read_87 : decode cX2_read 87 = .ok (.iastore, 1) := by decide +kernel
theorem dX2_read_88 : decode cX2_read 88 = .ok (.aload_n 0, 1) := by decide +kernel
theorem dX2_read_89 : decode cX2_read 89 = .ok (.bipush 59, 2) := by decide +kernel
theorem dX2_read_91 : decode cX2_read 91 = .ok (.invokevirtual 49, 3) := by decide +kernel
theorem dX2_read_94 : decode cX2_read 94 = .ok (.iinc 4 1, 3) := by decide +kernel
theorem dX2_read_97 : decode cX2_read 97 = .ok (.goto (-57), 3) := by decide +kernel
theorem dX2_read_100 : decode cX2_read 100 = .ok (.aload_n 0, 1) := by decide +kernel
theorem dX2_read_101 : decode cX2_read 101 = .ok (.getfield 24, 3) := by decide +kernel
theorem dX2_read_104 : decode cX2_read 104 = .ok (.sipush 258, 3) := by decide +kernel
theorem dX2_read_107 : decode cX2_read 107 = .ok (.if_icmp .eq 7, 3) := by decide +kernel
theorem dX2_read_110 : decode cX2_read 110 = .ok (.aload_n 0, 1) := by decide +kernel
theorem dX2_read_111 : decode cX2_read 111 = .ok (.invokevirtual 56, 3) := by decide +kernel
theorem dX2_read_114 : decode cX2_read 114 = .ok (.aload_n 0, 1) := by decide +kernel
theorem dX2_read_115 : decode cX2_read 115 = .ok (.getfield 30, 3) := by decide +kernel
theorem dX2_read_118 : decode cX2_read 118 = .ok (.ireturn, 1) := by decide +kernel
theorem dX2_fail_0 : decode cX2_fail 0 = .ok (.aload_n 0, 1) := by decide +kernel
theorem dX2_fail_1 : decode cX2_fail 1 = .ok (.getfield 30, 3) := by decide +kernel
theorem dX2_fail_4 : decode cX2_fail 4 = .ok (.iconst (-1), 1) := by decide +kernel
theorem dX2_fail_5 : decode cX2_fail 5 = .ok (.if_icmp .ne 11, 3) := by decide +kernel
theorem dX2_fail_8 : decode cX2_fail 8 = .ok (.aload_n 0, 1) := by decide +kernel
theorem dX2_fail_9 : decode cX2_fail 9 = .ok (.aload_n 0, 1) := by decide +kernel
theorem dX2_fail_10 : decode cX2_fail 10 = .ok (.getfield 18, 3) := by decide +kernel
theorem dX2_fail_13 : decode cX2_fail 13 = .ok (.putfield 30, 3) := by decide +kernel
theorem dX2_fail_16 : decode cX2_fail 16 = .ok (.aload_n 0, 1) := by decide +kernel
theorem dX2_fail_17 : decode cX2_fail 17 = .ok (.sipush 259, 3) := by decide +kernel
theorem dX2_fail_20 : decode cX2_fail 20 = .ok (.putfield 24, 3) := by decide +kernel
theorem dX2_fail_23 : decode cX2_fail 23 = .ok (.return_, 1) := by decide +kernel
theorem dX2_emit_0 : decode cX2_emit 0 = .ok (.aload_n 0, 1) := by decide +kernel
theorem dX2_emit_1 : decode cX2_emit 1 = .ok (.getfield 15, 3) := by decide +kernel
theorem dX2_emit_4 : decode cX2_emit 4 = .ok (.aload_n 0, 1) := by decide +kernel
theorem dX2_emit_5 : decode cX2_emit 5 = .ok (.getfield 37, 3) := by decide +kernel
theorem dX2_emit_8 : decode cX2_emit 8 = .ok (.arraylength, 1) := by decide +kernel
theorem dX2_emit_9 : decode cX2_emit 9 = .ok (.if_icmp .ge 23, 3) := by decide +kernel
theorem dX2_emit_12 : decode cX2_emit 12 = .ok (.aload_n 0, 1) := by decide +kernel
theorem dX2_emit_13 : decode cX2_emit 13 = .ok (.getfield 37, 3) := by decide +kernel
theorem dX2_emit_16 : decode cX2_emit 16 = .ok (.aload_n 0, 1) := by decide +kernel
theorem dX2_emit_17 : decode cX2_emit 17 = .ok (.getfield 15, 3) := by decide +kernel
theorem dX2_emit_20 : decode cX2_emit 20 = .ok (.iload_n 1, 1) := by decide +kernel
theorem dX2_emit_21 : decode cX2_emit 21 = .ok (.iastore, 1) := by decide +kernel
theorem dX2_emit_22 : decode cX2_emit 22 = .ok (.aload_n 0, 1) := by decide +kernel
theorem dX2_emit_23 : decode cX2_emit 23 = .ok (.dup, 1) := by decide +kernel
theorem dX2_emit_24 : decode cX2_emit 24 = .ok (.getfield 15, 3) := by decide +kernel
theorem dX2_emit_27 : decode cX2_emit 27 = .ok (.iconst 1, 1) := by decide +kernel
theorem dX2_emit_28 : decode cX2_emit 28 = .ok (.iadd, 1) := by decide +kernel
theorem dX2_emit_29 : decode cX2_emit 29 = .ok (.putfield 15, 3) := by decide +kernel
theorem dX2_emit_32 : decode cX2_emit 32 = .ok (.return_, 1) := by decide +kernel
theorem dX2_expect_0 : decode cX2_expect 0 = .ok (.aload_n 0, 1) := by decide +kernel
theorem dX2_expect_1 : decode cX2_expect 1 = .ok (.getfield 24, 3) := by decide +kernel
theorem dX2_expect_4 : decode cX2_expect 4 = .ok (.iload_n 1, 1) := by decide +kernel
theorem dX2_expect_5 : decode cX2_expect 5 = .ok (.if_icmp .ne 10, 3) := by decide +kernel
theorem dX2_expect_8 : decode cX2_expect 8 = .ok (.aload_n 0, 1) := by decide +kernel
theorem dX2_expect_9 : decode cX2_expect 9 = .ok (.invokevirtual 46, 3) := by decide +kernel
theorem dX2_expect_12 : decode cX2_expect 12 = .ok (.goto 7, 3) := by decide +kernel
theorem dX2_expect_15 : decode cX2_expect 15 = .ok (.aload_n 0, 1) := by decide +kernel
theorem dX2_expect_16 : decode cX2_expect 16 = .ok (.invokevirtual 56, 3) := by decide +kernel
theorem dX2_expect_19 : decode cX2_expect 19 = .ok (.return_, 1) := by decide +kernel
theorem dX2_either_0 : decode cX2_either 0 = .ok (.aload_n 0, 1) := by decide +kernel
theorem dX2_either_1 : decode cX2_either 1 = .ok (.iload_n 1, 1) := by decide +kernel
theorem dX2_either_2 : decode cX2_either 2 = .ok (.invokevirtual 59, 3) := by decide +kernel
theorem dX2_either_5 : decode cX2_either 5 = .ok (.iconst 0, 1) := by decide +kernel
theorem dX2_either_6 : decode cX2_either 6 = .ok (.istore_n 2, 1) := by decide +kernel
theorem dX2_either_7 : decode cX2_either 7 = .ok (.iload_n 2, 1) := by decide +kernel
theorem dX2_either_8 : decode cX2_either 8 = .ok (.sipush 160, 3) := by decide +kernel
theorem dX2_either_11 : decode cX2_either 11 = .ok (.if_icmp .ge 34, 3) := by decide +kernel
theorem dX2_either_14 : decode cX2_either 14 = .ok (.aload_n 0, 1) := by decide +kernel
theorem dX2_either_15 : decode cX2_either 15 = .ok (.getfield 24, 3) := by decide +kernel
theorem dX2_either_18 : decode cX2_either 18 = .ok (.sipush 263, 3) := by decide +kernel
theorem dX2_either_21 : decode cX2_either 21 = .ok (.if_icmp .ne 24, 3) := by decide +kernel
theorem dX2_either_24 : decode cX2_either 24 = .ok (.aload_n 0, 1) := by decide +kernel
theorem dX2_either_25 : decode cX2_either 25 = .ok (.invokevirtual 46, 3) := by decide +kernel
theorem dX2_either_28 : decode cX2_either 28 = .ok (.aload_n 0, 1) := by decide +kernel
theorem dX2_either_29 : decode cX2_either 29 = .ok (.iload_n 1, 1) := by decide +kernel
theorem dX2_either_30 : decode cX2_either 30 = .ok (.invokevirtual 59, 3) := by decide +kernel
theorem dX2_either_33 : decode cX2_either 33 = .ok (.aload_n 0, 1) := by decide +kernel
theorem dX2_either_34 : decode cX2_either 34 = .ok (.bipush (-7), 2) := by decide +kernel
theorem dX2_either_36 : decode cX2_either 36 = .ok (.invokevirtual 64, 3) := by decide +kernel
theorem dX2_either_39 : decode cX2_either 39 = .ok (.iinc 2 1, 3) := by decide +kernel
theorem dX2_either_42 : decode cX2_either 42 = .ok (.goto (-35), 3) := by decide +kernel
theorem dX2_either_45 : decode cX2_either 45 = .ok (.return_, 1) := by decide +kernel
theorem dX2_both_0 : decode cX2_both 0 = .ok (.aload_n 0, 1) := by decide +kernel
theorem dX2_both_1 : decode cX2_both 1 = .ok (.iload_n 1, 1) := by decide +kernel
theorem dX2_both_2 : decode cX2_both 2 = .ok (.invokevirtual 67, 3) := by decide +kernel
theorem dX2_both_5 : decode cX2_both 5 = .ok (.iconst 0, 1) := by decide +kernel
theorem dX2_both_6 : decode cX2_both 6 = .ok (.istore_n 2, 1) := by decide +kernel
theorem dX2_both_7 : decode cX2_both 7 = .ok (.iload_n 2, 1) := by decide +kernel
theorem dX2_both_8 : decode cX2_both 8 = .ok (.sipush 160, 3) := by decide +kernel
theorem dX2_both_11 : decode cX2_both 11 = .ok (.if_icmp .ge 34, 3) := by decide +kernel
theorem dX2_both_14 : decode cX2_both 14 = .ok (.aload_n 0, 1) := by decide +kernel
theorem dX2_both_15 : decode cX2_both 15 = .ok (.getfield 24, 3) := by decide +kernel
theorem dX2_both_18 : decode cX2_both 18 = .ok (.sipush 264, 3) := by decide +kernel
theorem dX2_both_21 : decode cX2_both 21 = .ok (.if_icmp .ne 24, 3) := by decide +kernel
theorem dX2_both_24 : decode cX2_both 24 = .ok (.aload_n 0, 1) := by decide +kernel
theorem dX2_both_25 : decode cX2_both 25 = .ok (.invokevirtual 46, 3) := by decide +kernel
theorem dX2_both_28 : decode cX2_both 28 = .ok (.aload_n 0, 1) := by decide +kernel
theorem dX2_both_29 : decode cX2_both 29 = .ok (.iload_n 1, 1) := by decide +kernel
theorem dX2_both_30 : decode cX2_both 30 = .ok (.invokevirtual 67, 3) := by decide +kernel
theorem dX2_both_33 : decode cX2_both 33 = .ok (.aload_n 0, 1) := by decide +kernel
theorem dX2_both_34 : decode cX2_both 34 = .ok (.bipush (-6), 2) := by decide +kernel
theorem dX2_both_36 : decode cX2_both 36 = .ok (.invokevirtual 64, 3) := by decide +kernel
theorem dX2_both_39 : decode cX2_both 39 = .ok (.iinc 2 1, 3) := by decide +kernel
theorem dX2_both_42 : decode cX2_both 42 = .ok (.goto (-35), 3) := by decide +kernel
theorem dX2_both_45 : decode cX2_both 45 = .ok (.return_, 1) := by decide +kernel
theorem dX2_negation_0 : decode cX2_negation 0 = .ok (.aload_n 0, 1) := by decide +kernel
theorem dX2_negation_1 : decode cX2_negation 1 = .ok (.getfield 24, 3) := by decide +kernel
theorem dX2_negation_4 : decode cX2_negation 4 = .ok (.sipush 265, 3) := by decide +kernel
theorem dX2_negation_7 : decode cX2_negation 7 = .ok (.if_icmp .ne 9, 3) := by decide +kernel
theorem dX2_negation_10 : decode cX2_negation 10 = .ok (.aload_n 0, 1) := by decide +kernel
theorem dX2_negation_11 : decode cX2_negation 11 = .ok (.iload_n 1, 1) := by decide +kernel
theorem dX2_negation_12 : decode cX2_negation 12 = .ok (.invokevirtual 70, 3) := by decide +kernel
theorem dX2_negation_15 : decode cX2_negation 15 = .ok (.return_, 1) := by decide +kernel
theorem dX2_negation_16 : decode cX2_negation 16 = .ok (.aload_n 0, 1) := by decide +kernel
theorem dX2_negation_17 : decode cX2_negation 17 = .ok (.iload_n 1, 1) := by decide +kernel
theorem dX2_negation_18 : decode cX2_negation 18 = .ok (.invokevirtual 73, 3) := by decide +kernel
theorem dX2_negation_21 : decode cX2_negation 21 = .ok (.aload_n 0, 1) := by decide +kernel
theorem dX2_negation_22 : decode cX2_negation 22 = .ok (.getfield 24, 3) := by decide +kernel
theorem dX2_negation_25 : decode cX2_negation 25 = .ok (.istore_n 2, 1) := by decide +kernel
theorem dX2_negation_26 : decode cX2_negation 26 = .ok (.iload_n 2, 1) := by decide +kernel
theorem dX2_negation_27 : decode cX2_negation 27 = .ok (.bipush 60, 2) := by decide +kernel
theorem dX2_negation_29 : decode cX2_negation 29 = .ok (.if_icmp .eq 9, 3) := by decide +kernel
theorem dX2_negation_32 : decode cX2_negation 32 = .ok (.iload_n 2, 1) := by decide +kernel
theorem dX2_negation_33 : decode cX2_negation 33 = .ok (.bipush 61, 2) := by decide +kernel
theorem dX2_negation_35 : decode cX2_negation 35 = .ok (.if_icmp .ne 29, 3) := by decide +kernel
theorem dX2_negation_38 : decode cX2_negation 38 = .ok (.aload_n 0, 1) := by decide +kernel
theorem dX2_negation_39 : decode cX2_negation 39 = .ok (.invokevirtual 46, 3) := by decide +kernel
theorem dX2_negation_42 : decode cX2_negation 42 = .ok (.aload_n 0, 1) := by decide +kernel
theorem dX2_negation_43 : decode cX2_negation 43 = .ok (.iload_n 1, 1) := by decide +kernel
theorem dX2_negation_44 : decode cX2_negation 44 = .ok (.invokevirtual 73, 3) := by decide +kernel
theorem dX2_negation_47 : decode cX2_negation 47 = .ok (.aload_n 0, 1) := by decide +kernel
theorem dX2_negation_48 : decode cX2_negation 48 = .ok (.iload_n 2, 1) := by decide +kernel
theorem dX2_negation_49 : decode cX2_negation 49 = .ok (.bipush 60, 2) := by decide +kernel
theorem dX2_negation_51 : decode cX2_negation 51 = .ok (.if_icmp .ne 8, 3) := by decide +kernel
theorem dX2_negation_54 : decode cX2_negation 54 = .ok (.bipush (-4), 2) := by decide +kernel
theorem dX2_negation_56 : decode cX2_negation 56 = .ok (.goto 5, 3) := by decide +kernel
theorem dX2_negation_59 : decode cX2_negation 59 = .ok (.bipush (-5), 2) := by decide +kernel
theorem dX2_negation_61 : decode cX2_negation 61 = .ok (.invokevirtual 64, 3) := by decide +kernel
theorem dX2_negation_64 : decode cX2_negation 64 = .ok (.return_, 1) := by decide +kernel
theorem dX2_deny_0 : decode cX2_deny 0 = .ok (.iload_n 1, 1) := by decide +kernel
theorem dX2_deny_1 : decode cX2_deny 1 = .ok (.iconst 5, 1) := by decide +kernel
theorem dX2_deny_2 : decode cX2_deny 2 = .ok (.if_icmp .lt 8, 3) := by decide +kernel
theorem dX2_deny_5 : decode cX2_deny 5 = .ok (.aload_n 0, 1) := by decide +kernel
theorem dX2_deny_6 : decode cX2_deny 6 = .ok (.invokevirtual 56, 3) := by decide +kernel
theorem dX2_deny_9 : decode cX2_deny 9 = .ok (.return_, 1) := by decide +kernel
theorem dX2_deny_10 : decode cX2_deny 10 = .ok (.aload_n 0, 1) := by decide +kernel
theorem dX2_deny_11 : decode cX2_deny 11 = .ok (.invokevirtual 46, 3) := by decide +kernel
theorem dX2_deny_14 : decode cX2_deny 14 = .ok (.aload_n 0, 1) := by decide +kernel
theorem dX2_deny_15 : decode cX2_deny 15 = .ok (.iload_n 1, 1) := by decide +kernel
theorem dX2_deny_16 : decode cX2_deny 16 = .ok (.iconst 1, 1) := by decide +kernel
theorem dX2_deny_17 : decode cX2_deny 17 = .ok (.iadd, 1) := by decide +kernel
theorem dX2_deny_18 : decode cX2_deny 18 = .ok (.invokevirtual 67, 3) := by decide +kernel
theorem dX2_deny_21 : decode cX2_deny 21 = .ok (.aload_n 0, 1) := by decide +kernel
theorem dX2_deny_22 : decode cX2_deny 22 = .ok (.bipush (-8), 2) := by decide +kernel
theorem dX2_deny_24 : decode cX2_deny 24 = .ok (.invokevirtual 64, 3) := by decide +kernel
theorem dX2_deny_27 : decode cX2_deny 27 = .ok (.return_, 1) := by decide +kernel
theorem dX2_sum_0 : decode cX2_sum 0 = .ok (.aload_n 0, 1) := by decide +kernel
theorem dX2_sum_1 : decode cX2_sum 1 = .ok (.iload_n 1, 1) := by decide +kernel
theorem dX2_sum_2 : decode cX2_sum 2 = .ok (.invokevirtual 76, 3) := by decide +kernel
theorem dX2_sum_5 : decode cX2_sum 5 = .ok (.iconst 0, 1) := by decide +kernel
theorem dX2_sum_6 : decode cX2_sum 6 = .ok (.istore_n 2, 1) := by decide +kernel
theorem dX2_sum_7 : decode cX2_sum 7 = .ok (.iload_n 2, 1) := by decide +kernel
theorem dX2_sum_8 : decode cX2_sum 8 = .ok (.sipush 160, 3) := by decide +kernel
theorem dX2_sum_11 : decode cX2_sum 11 = .ok (.if_icmp .ge 57, 3) := by decide +kernel
theorem dX2_sum_14 : decode cX2_sum 14 = .ok (.aload_n 0, 1) := by decide +kernel
theorem dX2_sum_15 : decode cX2_sum 15 = .ok (.getfield 24, 3) := by decide +kernel
theorem dX2_sum_18 : decode cX2_sum 18 = .ok (.bipush 43, 2) := by decide +kernel
theorem dX2_sum_20 : decode cX2_sum 20 = .ok (.if_icmp .eq 12, 3) := by decide +kernel
theorem dX2_sum_23 : decode cX2_sum 23 = .ok (.aload_n 0, 1) := by decide +kernel
theorem dX2_sum_24 : decode cX2_sum 24 = .ok (.getfield 24, 3) := by decide +kernel
theorem dX2_sum_27 : decode cX2_sum 27 = .ok (.bipush 45, 2) := by decide +kernel
theorem dX2_sum_29 : decode cX2_sum 29 = .ok (.if_icmp .ne 39, 3) := by decide +kernel
theorem dX2_sum_32 : decode cX2_sum 32 = .ok (.aload_n 0, 1) := by decide +kernel
theorem dX2_sum_33 : decode cX2_sum 33 = .ok (.getfield 24, 3) := by decide +kernel
theorem dX2_sum_36 : decode cX2_sum 36 = .ok (.bipush 43, 2) := by decide +kernel
theorem dX2_sum_38 : decode cX2_sum 38 = .ok (.if_icmp .ne 7, 3) := by decide +kernel
theorem dX2_sum_41 : decode cX2_sum 41 = .ok (.iconst (-1), 1) := by decide +kernel
theorem dX2_sum_42 : decode cX2_sum 42 = .ok (.goto 5, 3) := by decide +kernel
theorem dX2_sum_45 : decode cX2_sum 45 = .ok (.bipush (-2), 2) := by decide +kernel
theorem dX2_sum_47 : decode cX2_sum 47 = .ok (.istore_n 3, 1) := by decide +kernel
theorem dX2_sum_48 : decode cX2_sum 48 = .ok (.aload_n 0, 1) := by decide +kernel
theorem dX2_sum_49 : decode cX2_sum 49 = .ok (.invokevirtual 46, 3) := by decide +kernel
theorem dX2_sum_52 : decode cX2_sum 52 = .ok (.aload_n 0, 1) := by decide +kernel
theorem dX2_sum_53 : decode cX2_sum 53 = .ok (.iload_n 1, 1) := by decide +kernel
theorem dX2_sum_54 : decode cX2_sum 54 = .ok (.invokevirtual 76, 3) := by decide +kernel
theorem dX2_sum_57 : decode cX2_sum 57 = .ok (.aload_n 0, 1) := by decide +kernel
theorem dX2_sum_58 : decode cX2_sum 58 = .ok (.iload_n 3, 1) := by decide +kernel
theorem dX2_sum_59 : decode cX2_sum 59 = .ok (.invokevirtual 64, 3) := by decide +kernel
theorem dX2_sum_62 : decode cX2_sum 62 = .ok (.iinc 2 1, 3) := by decide +kernel
theorem dX2_sum_65 : decode cX2_sum 65 = .ok (.goto (-58), 3) := by decide +kernel
theorem dX2_sum_68 : decode cX2_sum 68 = .ok (.return_, 1) := by decide +kernel
theorem dX2_term_0 : decode cX2_term 0 = .ok (.aload_n 0, 1) := by decide +kernel
theorem dX2_term_1 : decode cX2_term 1 = .ok (.iload_n 1, 1) := by decide +kernel
theorem dX2_term_2 : decode cX2_term 2 = .ok (.invokevirtual 79, 3) := by decide +kernel
theorem dX2_term_5 : decode cX2_term 5 = .ok (.iconst 0, 1) := by decide +kernel
theorem dX2_term_6 : decode cX2_term 6 = .ok (.istore_n 2, 1) := by decide +kernel
theorem dX2_term_7 : decode cX2_term 7 = .ok (.iload_n 2, 1) := by decide +kernel
theorem dX2_term_8 : decode cX2_term 8 = .ok (.sipush 160, 3) := by decide +kernel
theorem dX2_term_11 : decode cX2_term 11 = .ok (.if_icmp .ge 33, 3) := by decide +kernel
theorem dX2_term_14 : decode cX2_term 14 = .ok (.aload_n 0, 1) := by decide +kernel
theorem dX2_term_15 : decode cX2_term 15 = .ok (.getfield 24, 3) := by decide +kernel
theorem dX2_term_18 : decode cX2_term 18 = .ok (.bipush 42, 2) := by decide +kernel
theorem dX2_term_20 : decode cX2_term 20 = .ok (.if_icmp .ne 24, 3) := by decide +kernel
theorem dX2_term_23 : decode cX2_term 23 = .ok (.aload_n 0, 1) := by decide +kernel
theorem dX2_term_24 : decode cX2_term 24 = .ok (.invokevirtual 46, 3) := by decide +kernel
theorem dX2_term_27 : decode cX2_term 27 = .ok (.aload_n 0, 1) := by decide +kernel
theorem dX2_term_28 : decode cX2_term 28 = .ok (.iload_n 1, 1) := by decide +kernel
theorem dX2_term_29 : decode cX2_term 29 = .ok (.invokevirtual 79, 3) := by decide +kernel
theorem dX2_term_32 : decode cX2_term 32 = .ok (.aload_n 0, 1) := by decide +kernel
theorem dX2_term_33 : decode cX2_term 33 = .ok (.bipush (-3), 2) := by decide +kernel
theorem dX2_term_35 : decode cX2_term 35 = .ok (.invokevirtual 64, 3) := by decide +kernel
theorem dX2_term_38 : decode cX2_term 38 = .ok (.iinc 2 1, 3) := by decide +kernel
theorem dX2_term_41 : decode cX2_term 41 = .ok (.goto (-34), 3) := by decide +kernel
theorem dX2_term_44 : decode cX2_term 44 = .ok (.return_, 1) := by decide +kernel
theorem dX2_one_0 : decode cX2_one 0 = .ok (.aload_n 0, 1) := by decide +kernel
theorem dX2_one_1 : decode cX2_one 1 = .ok (.getfield 24, 3) := by decide +kernel
theorem dX2_one_4 : decode cX2_one 4 = .ok (.sipush 256, 3) := by decide +kernel
theorem dX2_one_7 : decode cX2_one 7 = .ok (.if_icmp .eq 13, 3) := by decide +kernel
theorem dX2_one_10 : decode cX2_one 10 = .ok (.aload_n 0, 1) := by decide +kernel
theorem dX2_one_11 : decode cX2_one 11 = .ok (.getfield 24, 3) := by decide +kernel
theorem dX2_one_14 : decode cX2_one 14 = .ok (.sipush 257, 3) := by decide +kernel
theorem dX2_one_17 : decode cX2_one 17 = .ok (.if_icmp .ne 39, 3) := by decide +kernel
theorem dX2_one_20 : decode cX2_one 20 = .ok (.aload_n 0, 1) := by decide +kernel
theorem dX2_one_21 : decode cX2_one 21 = .ok (.aload_n 0, 1) := by decide +kernel
theorem dX2_one_22 : decode cX2_one 22 = .ok (.getfield 24, 3) := by decide +kernel
theorem dX2_one_25 : decode cX2_one 25 = .ok (.sipush 256, 3) := by decide +kernel
theorem dX2_one_28 : decode cX2_one 28 = .ok (.if_icmp .ne 10, 3) := by decide +kernel
theorem dX2_one_31 : decode cX2_one 31 = .ok (.aload_n 0, 1) := by decide +kernel
theorem dX2_one_32 : decode cX2_one 32 = .ok (.getfield 27, 3) := by decide +kernel
theorem dX2_one_35 : decode cX2_one 35 = .ok (.goto 11, 3) := by decide +kernel
theorem dX2_one_38 : decode cX2_one 38 = .ok (.sipush 10000, 3) := by decide +kernel
theorem dX2_one_41 : decode cX2_one 41 = .ok (.aload_n 0, 1) := by decide +kernel
theorem dX2_one_42 : decode cX2_one 42 = .ok (.getfield 27, 3) := by decide +kernel
theorem dX2_one_45 : decode cX2_one 45 = .ok (.iadd, 1) := by decide +kernel
theorem dX2_one_46 : decode cX2_one 46 = .ok (.invokevirtual 64, 3) := by decide +kernel
theorem dX2_one_49 : decode cX2_one 49 = .ok (.aload_n 0, 1) := by decide +kernel
theorem dX2_one_50 : decode cX2_one 50 = .ok (.invokevirtual 46, 3) := by decide +kernel
theorem dX2_one_53 : decode cX2_one 53 = .ok (.goto 77, 3) := by decide +kernel
theorem dX2_one_56 : decode cX2_one 56 = .ok (.iload_n 1, 1) := by decide +kernel
theorem dX2_one_57 : decode cX2_one 57 = .ok (.iconst 5, 1) := by decide +kernel
theorem dX2_one_58 : decode cX2_one 58 = .ok (.if_icmp .lt 10, 3) := by decide +kernel
theorem dX2_one_61 : decode cX2_one 61 = .ok (.aload_n 0, 1) := by decide +kernel
theorem dX2_one_62 : decode cX2_one 62 = .ok (.invokevirtual 56, 3) := by decide +kernel
theorem dX2_one_65 : decode cX2_one 65 = .ok (.goto 65, 3) := by decide +kernel
theorem dX2_one_68 : decode cX2_one 68 = .ok (.aload_n 0, 1) := by decide +kernel
theorem dX2_one_69 : decode cX2_one 69 = .ok (.getfield 24, 3) := by decide +kernel
theorem dX2_one_72 : decode cX2_one 72 = .ok (.bipush 45, 2) := by decide +kernel
theorem dX2_one_74 : decode cX2_one 74 = .ok (.if_icmp .ne 23, 3) := by decide +kernel
theorem dX2_one_77 : decode cX2_one 77 = .ok (.aload_n 0, 1) := by decide +kernel
theorem dX2_one_78 : decode cX2_one 78 = .ok (.invokevirtual 46, 3) := by decide +kernel
theorem dX2_one_81 : decode cX2_one 81 = .ok (.aload_n 0, 1) := by decide +kernel
theorem dX2_one_82 : decode cX2_one 82 = .ok (.iload_n 1, 1) := by decide +kernel
theorem dX2_one_83 : decode cX2_one 83 = .ok (.iconst 1, 1) := by decide +kernel
theorem dX2_one_84 : decode cX2_one 84 = .ok (.iadd, 1) := by decide +kernel
theorem dX2_one_85 : decode cX2_one 85 = .ok (.invokevirtual 79, 3) := by decide +kernel
theorem dX2_one_88 : decode cX2_one 88 = .ok (.aload_n 0, 1) := by decide +kernel
theorem dX2_one_89 : decode cX2_one 89 = .ok (.bipush (-9), 2) := by decide +kernel
theorem dX2_one_91 : decode cX2_one 91 = .ok (.invokevirtual 64, 3) := by decide +kernel
theorem dX2_one_94 : decode cX2_one 94 = .ok (.goto 36, 3) := by decide +kernel
theorem dX2_one_97 : decode cX2_one 97 = .ok (.aload_n 0, 1) := by decide +kernel
theorem dX2_one_98 : decode cX2_one 98 = .ok (.getfield 24, 3) := by decide +kernel
theorem dX2_one_101 : decode cX2_one 101 = .ok (.bipush 40, 2) := by decide +kernel
theorem dX2_one_103 : decode cX2_one 103 = .ok (.if_icmp .ne 23, 3) := by decide +kernel
theorem dX2_one_106 : decode cX2_one 106 = .ok (.aload_n 0, 1) := by decide +kernel
theorem dX2_one_107 : decode cX2_one 107 = .ok (.invokevirtual 46, 3) := by decide +kernel
theorem dX2_one_110 : decode cX2_one 110 = .ok (.aload_n 0, 1) := by decide +kernel
theorem dX2_one_111 : decode cX2_one 111 = .ok (.iload_n 1, 1) := by decide +kernel
theorem dX2_one_112 : decode cX2_one 112 = .ok (.iconst 1, 1) := by decide +kernel
theorem dX2_one_113 : decode cX2_one 113 = .ok (.iadd, 1) := by decide +kernel
theorem dX2_one_114 : decode cX2_one 114 = .ok (.invokevirtual 53, 3) := by decide +kernel
theorem dX2_one_117 : decode cX2_one 117 = .ok (.aload_n 0, 1) := by decide +kernel
theorem dX2_one_118 : decode cX2_one 118 = .ok (.bipush 41, 2) := by decide +kernel
theorem dX2_one_120 : decode cX2_one 120 = .ok (.invokevirtual 49, 3) := by decide +kernel
theorem dX2_one_123 : decode cX2_one 123 = .ok (.goto 7, 3) := by decide +kernel
theorem dX2_one_126 : decode cX2_one 126 = .ok (.aload_n 0, 1) := by decide +kernel
theorem dX2_one_127 : decode cX2_one 127 = .ok (.invokevirtual 56, 3) := by decide +kernel
theorem dX2_one_130 : decode cX2_one 130 = .ok (.return_, 1) := by decide +kernel
theorem dX2_advance_0 : decode cX2_advance 0 = .ok (.aload_n 0, 1) := by decide +kernel
theorem dX2_advance_1 : decode cX2_advance 1 = .ok (.getfield 30, 3) := by decide +kernel
theorem dX2_advance_4 : decode cX2_advance 4 = .ok (.iconst (-1), 1) := by decide +kernel
theorem dX2_advance_5 : decode cX2_advance 5 = .ok (.if_icmp .eq 4, 3) := by decide +kernel
theorem dX2_advance_8 : decode cX2_advance 8 = .ok (.return_, 1) := by decide +kernel
theorem dX2_advance_9 : decode cX2_advance 9 = .ok (.aload_n 0, 1) := by decide +kernel
theorem dX2_advance_10 : decode cX2_advance 10 = .ok (.aload_n 0, 1) := by decide +kernel
theorem dX2_advance_11 : decode cX2_advance 11 = .ok (.aload_n 0, 1) := by decide +kernel
theorem dX2_advance_12 : decode cX2_advance 12 = .ok (.getfield 21, 3) := by decide +kernel
theorem dX2_advance_15 : decode cX2_advance 15 = .ok (.bipush 32, 2) := by decide +kernel
theorem dX2_advance_17 : decode cX2_advance 17 = .ok (.invokevirtual 82, 3) := by decide +kernel
theorem dX2_advance_20 : decode cX2_advance 20 = .ok (.putfield 18, 3) := by decide +kernel
theorem dX2_advance_23 : decode cX2_advance 23 = .ok (.aload_n 0, 1) := by decide +kernel
theorem dX2_advance_24 : decode cX2_advance 24 = .ok (.getfield 18, 3) := by decide +kernel
theorem dX2_advance_27 : decode cX2_advance 27 = .ok (.aload_n 0, 1) := by decide +kernel
theorem dX2_advance_28 : decode cX2_advance 28 = .ok (.getfield 9, 3) := by decide +kernel
theorem dX2_advance_31 : decode cX2_advance 31 = .ok (.if_icmp .lt 11, 3) := by decide +kernel
theorem dX2_advance_34 : decode cX2_advance 34 = .ok (.aload_n 0, 1) := by decide +kernel
theorem dX2_advance_35 : decode cX2_advance 35 = .ok (.sipush 258, 3) := by decide +kernel
theorem dX2_advance_38 : decode cX2_advance 38 = .ok (.putfield 24, 3) := by decide +kernel
theorem dX2_advance_41 : decode cX2_advance 41 = .ok (.return_, 1) := by decide +kernel
theorem dX2_advance_42 : decode cX2_advance 42 = .ok (.aload_n 0, 1) := by decide +kernel
theorem dX2_advance_43 : decode cX2_advance 43 = .ok (.getfield 33, 3) := by decide +kernel
theorem dX2_advance_46 : decode cX2_advance 46 = .ok (.aload_n 0, 1) := by decide +kernel
theorem dX2_advance_47 : decode cX2_advance 47 = .ok (.getfield 18, 3) := by decide +kernel
theorem dX2_advance_50 : decode cX2_advance 50 = .ok (.iaload, 1) := by decide +kernel
theorem dX2_advance_51 : decode cX2_advance 51 = .ok (.istore_n 1, 1) := by decide +kernel
theorem dX2_advance_52 : decode cX2_advance 52 = .ok (.iload_n 1, 1) := by decide +kernel
theorem dX2_advance_53 : decode cX2_advance 53 = .ok (.invokestatic 85, 3) := by decide +kernel
theorem dX2_advance_56 : decode cX2_advance 56 = .ok (.ifCond .eq 24, 3) := by decide +kernel
theorem dX2_advance_59 : decode cX2_advance 59 = .ok (.aload_n 0, 1) := by decide +kernel
theorem dX2_advance_60 : decode cX2_advance 60 = .ok (.aload_n 0, 1) := by decide +kernel
theorem dX2_advance_61 : decode cX2_advance 61 = .ok (.aload_n 0, 1) := by decide +kernel
theorem dX2_advance_62 : decode cX2_advance 62 = .ok (.getfield 18, 3) := by decide +kernel
theorem dX2_advance_65 : decode cX2_advance 65 = .ok (.bipush 97, 2) := by decide +kernel
theorem dX2_advance_67 : decode cX2_advance 67 = .ok (.invokevirtual 82, 3) := by decide +kernel
theorem dX2_advance_70 : decode cX2_advance 70 = .ok (.putfield 21, 3) := by decide +kernel
theorem dX2_advance_73 : decode cX2_advance 73 = .ok (.aload_n 0, 1) := by decide +kernel
theorem dX2_advance_74 : decode cX2_advance 74 = .ok (.invokevirtual 89, 3) := by decide +kernel
theorem dX2_advance_77 : decode cX2_advance 77 = .ok (.goto 60, 3) := by decide +kernel
theorem dX2_advance_80 : decode cX2_advance 80 = .ok (.iload_n 1, 1) := by decide +kernel
theorem dX2_advance_81 : decode cX2_advance 81 = .ok (.invokestatic 92, 3) := by decide +kernel
theorem dX2_advance_84 : decode cX2_advance 84 = .ok (.ifCond .eq 24, 3) := by decide +kernel
theorem dX2_advance_87 : decode cX2_advance 87 = .ok (.aload_n 0, 1) := by decide +kernel
theorem dX2_advance_88 : decode cX2_advance 88 = .ok (.aload_n 0, 1) := by decide +kernel
theorem dX2_advance_89 : decode cX2_advance 89 = .ok (.aload_n 0, 1) := by decide +kernel
theorem dX2_advance_90 : decode cX2_advance 90 = .ok (.getfield 18, 3) := by decide +kernel
theorem dX2_advance_93 : decode cX2_advance 93 = .ok (.bipush 48, 2) := by decide +kernel
theorem dX2_advance_95 : decode cX2_advance 95 = .ok (.invokevirtual 82, 3) := by decide +kernel
theorem dX2_advance_98 : decode cX2_advance 98 = .ok (.putfield 21, 3) := by decide +kernel
theorem dX2_advance_101 : decode cX2_advance 101 = .ok (.aload_n 0, 1) := by decide +kernel
theorem dX2_advance_102 : decode cX2_advance 102 = .ok (.invokevirtual 95, 3) := by decide +kernel
theorem dX2_advance_105 : decode cX2_advance 105 = .ok (.goto 32, 3) := by decide +kernel
theorem dX2_advance_108 : decode cX2_advance 108 = .ok (.iload_n 1, 1) := by decide +kernel
theorem dX2_advance_109 : decode cX2_advance 109 = .ok (.invokestatic 98, 3) := by decide +kernel
theorem dX2_advance_112 : decode cX2_advance 112 = .ok (.ifCond .eq 21, 3) := by decide +kernel
theorem dX2_advance_115 : decode cX2_advance 115 = .ok (.aload_n 0, 1) := by decide +kernel
theorem dX2_advance_116 : decode cX2_advance 116 = .ok (.aload_n 0, 1) := by decide +kernel
theorem dX2_advance_117 : decode cX2_advance 117 = .ok (.getfield 18, 3) := by decide +kernel
theorem dX2_advance_120 : decode cX2_advance 120 = .ok (.iconst 1, 1) := by decide +kernel
theorem dX2_advance_121 : decode cX2_advance 121 = .ok (.iadd, 1) := by decide +kernel
theorem dX2_advance_122 : decode cX2_advance 122 = .ok (.putfield 21, 3) := by decide +kernel
theorem dX2_advance_125 : decode cX2_advance 125 = .ok (.aload_n 0, 1) := by decide +kernel
theorem dX2_advance_126 : decode cX2_advance 126 = .ok (.iload_n 1, 1) := by decide +kernel
theorem dX2_advance_127 : decode cX2_advance 127 = .ok (.putfield 24, 3) := by decide +kernel
theorem dX2_advance_130 : decode cX2_advance 130 = .ok (.goto 7, 3) := by decide +kernel
theorem dX2_advance_133 : decode cX2_advance 133 = .ok (.aload_n 0, 1) := by decide +kernel
theorem dX2_advance_134 : decode cX2_advance 134 = .ok (.invokevirtual 56, 3) := by decide +kernel
theorem dX2_advance_137 : decode cX2_advance 137 = .ok (.return_, 1) := by decide +kernel
theorem dX2_behind_0 : decode cX2_behind 0 = .ok (.iload_n 1, 1) := by decide +kernel
theorem dX2_behind_1 : decode cX2_behind 1 = .ok (.istore_n 3, 1) := by decide +kernel
theorem dX2_behind_2 : decode cX2_behind 2 = .ok (.iload_n 3, 1) := by decide +kernel
theorem dX2_behind_3 : decode cX2_behind 3 = .ok (.aload_n 0, 1) := by decide +kernel
theorem dX2_behind_4 : decode cX2_behind 4 = .ok (.getfield 9, 3) := by decide +kernel
theorem dX2_behind_7 : decode cX2_behind 7 = .ok (.if_icmp .ge 73, 3) := by decide +kernel
theorem dX2_behind_10 : decode cX2_behind 10 = .ok (.aload_n 0, 1) := by decide +kernel
theorem dX2_behind_11 : decode cX2_behind 11 = .ok (.getfield 33, 3) := by decide +kernel
theorem dX2_behind_14 : decode cX2_behind 14 = .ok (.iload_n 3, 1) := by decide +kernel
theorem dX2_behind_15 : decode cX2_behind 15 = .ok (.iaload, 1) := by decide +kernel
theorem dX2_behind_16 : decode cX2_behind 16 = .ok (.istore 4, 2) := by decide +kernel
theorem dX2_behind_18 : decode cX2_behind 18 = .ok (.iload_n 2, 1) := by decide +kernel
theorem dX2_behind_19 : decode cX2_behind 19 = .ok (.bipush 97, 2) := by decide +kernel
theorem dX2_behind_21 : decode cX2_behind 21 = .ok (.if_icmp .ne 11, 3) := by decide +kernel
theorem dX2_behind_24 : decode cX2_behind 24 = .ok (.iload 4, 2) := by decide +kernel
theorem dX2_behind_26 : decode cX2_behind 26 = .ok (.invokestatic 85, 3) := by decide +kernel
theorem dX2_behind_29 : decode cX2_behind 29 = .ok (.goto 36, 3) := by decide +kernel
theorem dX2_behind_32 : decode cX2_behind 32 = .ok (.iload_n 2, 1) := by decide +kernel
theorem dX2_behind_33 : decode cX2_behind 33 = .ok (.bipush 48, 2) := by decide +kernel
theorem dX2_behind_35 : decode cX2_behind 35 = .ok (.if_icmp .ne 11, 3) := by decide +kernel
theorem dX2_behind_38 : decode cX2_behind 38 = .ok (.iload 4, 2) := by decide +kernel
theorem dX2_behind_40 : decode cX2_behind 40 = .ok (.invokestatic 92, 3) := by decide +kernel
theorem dX2_behind_43 : decode cX2_behind 43 = .ok (.goto 22, 3) := by decide +kernel
theorem dX2_behind_46 : decode cX2_behind 46 = .ok (.iload 4, 2) := by decide +kernel
theorem dX2_behind_48 : decode cX2_behind 48 = .ok (.bipush 32, 2) := by decide +kernel
theorem dX2_behind_50 : decode cX2_behind 50 = .ok (.if_icmp .eq 10, 3) := by decide +kernel
theorem dX2_behind_53 : decode cX2_behind 53 = .ok (.iload 4, 2) := by decide +kernel
theorem dX2_behind_55 : decode cX2_behind 55 = .ok (.bipush 10, 2) := by decide +kernel
theorem dX2_behind_57 : decode cX2_behind 57 = .ok (.if_icmp .ne 7, 3) := by decide +kernel
theorem dX2_behind_60 : decode cX2_behind 60 = .ok (.iconst 1, 1) := by decide +kernel
theorem dX2_behind_61 : decode cX2_behind 61 = .ok (.goto 4, 3) := by decide +kernel
theorem dX2_behind_64 : decode cX2_behind 64 = .ok (.iconst 0, 1) := by decide +kernel
theorem dX2_behind_65 : decode cX2_behind 65 = .ok (.istore 5, 2) := by decide +kernel
theorem dX2_behind_67 : decode cX2_behind 67 = .ok (.iload 5, 2) := by decide +kernel
theorem dX2_behind_69 : decode cX2_behind 69 = .ok (.ifCond .ne 5, 3) := by decide +kernel
theorem dX2_behind_72 : decode cX2_behind 72 = .ok (.iload_n 3, 1) := by decide +kernel
theorem dX2_behind_73 : decode cX2_behind 73 = .ok (.ireturn, 1) := by decide +kernel
theorem dX2_behind_74 : decode cX2_behind 74 = .ok (.iinc 3 1, 3) := by decide +kernel
theorem dX2_behind_77 : decode cX2_behind 77 = .ok (.goto (-75), 3) := by decide +kernel
theorem dX2_behind_80 : decode cX2_behind 80 = .ok (.aload_n 0, 1) := by decide +kernel
theorem dX2_behind_81 : decode cX2_behind 81 = .ok (.getfield 9, 3) := by decide +kernel
theorem dX2_behind_84 : decode cX2_behind 84 = .ok (.ireturn, 1) := by decide +kernel
theorem dX2_isLetter_0 : decode cX2_isLetter 0 = .ok (.iload_n 0, 1) := by decide +kernel
theorem dX2_isLetter_1 : decode cX2_isLetter 1 = .ok (.bipush 97, 2) := by decide +kernel
theorem dX2_isLetter_3 : decode cX2_isLetter 3 = .ok (.if_icmp .lt 13, 3) := by decide +kernel
theorem dX2_isLetter_6 : decode cX2_isLetter 6 = .ok (.iload_n 0, 1) := by decide +kernel
theorem dX2_isLetter_7 : decode cX2_isLetter 7 = .ok (.bipush 122, 2) := by decide +kernel
theorem dX2_isLetter_9 : decode cX2_isLetter 9 = .ok (.if_icmp .gt 7, 3) := by decide +kernel
theorem dX2_isLetter_12 : decode cX2_isLetter 12 = .ok (.iconst 1, 1) := by decide +kernel
theorem dX2_isLetter_13 : decode cX2_isLetter 13 = .ok (.goto 4, 3) := by decide +kernel
theorem dX2_isLetter_16 : decode cX2_isLetter 16 = .ok (.iconst 0, 1) := by decide +kernel
theorem dX2_isLetter_17 : decode cX2_isLetter 17 = .ok (.ireturn, 1) := by decide +kernel
theorem dX2_isDigit_0 : decode cX2_isDigit 0 = .ok (.iload_n 0, 1) := by decide +kernel
theorem dX2_isDigit_1 : decode cX2_isDigit 1 = .ok (.bipush 48, 2) := by decide +kernel
theorem dX2_isDigit_3 : decode cX2_isDigit 3 = .ok (.if_icmp .lt 13, 3) := by decide +kernel
theorem dX2_isDigit_6 : decode cX2_isDigit 6 = .ok (.iload_n 0, 1) := by decide +kernel
theorem dX2_isDigit_7 : decode cX2_isDigit 7 = .ok (.bipush 57, 2) := by decide +kernel
theorem dX2_isDigit_9 : decode cX2_isDigit 9 = .ok (.if_icmp .gt 7, 3) := by decide +kernel
theorem dX2_isDigit_12 : decode cX2_isDigit 12 = .ok (.iconst 1, 1) := by decide +kernel
theorem dX2_isDigit_13 : decode cX2_isDigit 13 = .ok (.goto 4, 3) := by decide +kernel
theorem dX2_isDigit_16 : decode cX2_isDigit 16 = .ok (.iconst 0, 1) := by decide +kernel
theorem dX2_isDigit_17 : decode cX2_isDigit 17 = .ok (.ireturn, 1) := by decide +kernel
theorem dX2_isSign_0 : decode cX2_isSign 0 = .ok (.iload_n 0, 1) := by decide +kernel
theorem dX2_isSign_1 : decode cX2_isSign 1 = .ok (.bipush 40, 2) := by decide +kernel
theorem dX2_isSign_3 : decode cX2_isSign 3 = .ok (.if_icmp .eq 45, 3) := by decide +kernel
theorem dX2_isSign_6 : decode cX2_isSign 6 = .ok (.iload_n 0, 1) := by decide +kernel
theorem dX2_isSign_7 : decode cX2_isSign 7 = .ok (.bipush 41, 2) := by decide +kernel
theorem dX2_isSign_9 : decode cX2_isSign 9 = .ok (.if_icmp .eq 39, 3) := by decide +kernel
theorem dX2_isSign_12 : decode cX2_isSign 12 = .ok (.iload_n 0, 1) := by decide +kernel
theorem dX2_isSign_13 : decode cX2_isSign 13 = .ok (.bipush 59, 2) := by decide +kernel
theorem dX2_isSign_15 : decode cX2_isSign 15 = .ok (.if_icmp .eq 33, 3) := by decide +kernel
theorem dX2_isSign_18 : decode cX2_isSign 18 = .ok (.iload_n 0, 1) := by decide +kernel
theorem dX2_isSign_19 : decode cX2_isSign 19 = .ok (.bipush 43, 2) := by decide +kernel
theorem dX2_isSign_21 : decode cX2_isSign 21 = .ok (.if_icmp .eq 27, 3) := by decide +kernel
theorem dX2_isSign_24 : decode cX2_isSign 24 = .ok (.iload_n 0, 1) := by decide +kernel
theorem dX2_isSign_25 : decode cX2_isSign 25 = .ok (.bipush 45, 2) := by decide +kernel
theorem dX2_isSign_27 : decode cX2_isSign 27 = .ok (.if_icmp .eq 21, 3) := by decide +kernel
theorem dX2_isSign_30 : decode cX2_isSign 30 = .ok (.iload_n 0, 1) := by decide +kernel
theorem dX2_isSign_31 : decode cX2_isSign 31 = .ok (.bipush 42, 2) := by decide +kernel
theorem dX2_isSign_33 : decode cX2_isSign 33 = .ok (.if_icmp .eq 15, 3) := by decide +kernel
theorem dX2_isSign_36 : decode cX2_isSign 36 = .ok (.iload_n 0, 1) := by decide +kernel
theorem dX2_isSign_37 : decode cX2_isSign 37 = .ok (.bipush 60, 2) := by decide +kernel
theorem dX2_isSign_39 : decode cX2_isSign 39 = .ok (.if_icmp .eq 9, 3) := by decide +kernel
theorem dX2_isSign_42 : decode cX2_isSign 42 = .ok (.iload_n 0, 1) := by decide +kernel
theorem dX2_isSign_43 : decode cX2_isSign 43 = .ok (.bipush 61, 2) := by decide +kernel
theorem dX2_isSign_45 : decode cX2_isSign 45 = .ok (.if_icmp .ne 7, 3) := by decide +kernel
theorem dX2_isSign_48 : decode cX2_isSign 48 = .ok (.iconst 1, 1) := by decide +kernel
theorem dX2_isSign_49 : decode cX2_isSign 49 = .ok (.goto 4, 3) := by decide +kernel
theorem dX2_isSign_52 : decode cX2_isSign 52 = .ok (.iconst 0, 1) := by decide +kernel
theorem dX2_isSign_53 : decode cX2_isSign 53 = .ok (.ireturn, 1) := by decide +kernel
theorem dX2_takeNumber_0 : decode cX2_takeNumber 0 = .ok (.aload_n 0, 1) := by decide +kernel
theorem dX2_takeNumber_1 : decode cX2_takeNumber 1 = .ok (.getfield 21, 3) := by decide +kernel
theorem dX2_takeNumber_4 : decode cX2_takeNumber 4 = .ok (.aload_n 0, 1) := by decide +kernel
theorem dX2_takeNumber_5 : decode cX2_takeNumber 5 = .ok (.getfield 18, 3) := by decide +kernel
theorem dX2_takeNumber_8 : decode cX2_takeNumber 8 = .ok (.isub, 1) := by decide +kernel
theorem dX2_takeNumber_9 : decode cX2_takeNumber 9 = .ok (.iconst 4, 1) := by decide +kernel
theorem dX2_takeNumber_10 : decode cX2_takeNumber 10 = .ok (.if_icmp .le 8, 3) := by decide +kernel
theorem dX2_takeNumber_13 : decode cX2_takeNumber 13 = .ok (.aload_n 0, 1) := by decide +kernel
theorem dX2_takeNumber_14 : decode cX2_takeNumber 14 = .ok (.invokevirtual 56, 3) := by decide +kernel
theorem dX2_takeNumber_17 : decode cX2_takeNumber 17 = .ok (.return_, 1) := by decide +kernel
theorem dX2_takeNumber_18 : decode cX2_takeNumber 18 = .ok (.aload_n 0, 1) := by decide +kernel
theorem dX2_takeNumber_19 : decode cX2_takeNumber 19 = .ok (.iconst 0, 1) := by decide +kernel
theorem dX2_takeNumber_20 : decode cX2_takeNumber 20 = .ok (.putfield 27, 3) := by decide +kernel
theorem dX2_takeNumber_23 : decode cX2_takeNumber 23 = .ok (.aload_n 0, 1) := by decide +kernel
theorem dX2_takeNumber_24 : decode cX2_takeNumber 24 = .ok (.getfield 18, 3) := by decide +kernel
theorem dX2_takeNumber_27 : decode cX2_takeNumber 27 = .ok (.istore_n 1, 1) := by decide +kernel
theorem dX2_takeNumber_28 : decode cX2_takeNumber 28 = .ok (.iload_n 1, 1) := by decide +kernel
theorem dX2_takeNumber_29 : decode cX2_takeNumber 29 = .ok (.aload_n 0, 1) := by decide +kernel
theorem dX2_takeNumber_30 : decode cX2_takeNumber 30 = .ok (.getfield 21, 3) := by decide +kernel
theorem dX2_takeNumber_33 : decode cX2_takeNumber 33 = .ok (.if_icmp .ge 30, 3) := by decide +kernel
theorem dX2_takeNumber_36 : decode cX2_takeNumber 36 = .ok (.aload_n 0, 1) := by decide +kernel
theorem dX2_takeNumber_37 : decode cX2_takeNumber 37 = .ok (.aload_n 0, 1) := by decide +kernel
theorem dX2_takeNumber_38 : decode cX2_takeNumber 38 = .ok (.getfield 27, 3) := by decide +kernel
theorem dX2_takeNumber_41 : decode cX2_takeNumber 41 = .ok (.bipush 10, 2) := by decide +kernel
theorem dX2_takeNumber_43 : decode cX2_takeNumber 43 = .ok (.imul, 1) := by decide +kernel
theorem dX2_takeNumber_44 : decode cX2_takeNumber 44 = .ok (.aload_n 0, 1) := by decide +kernel
theorem dX2_takeNumber_45 : decode cX2_takeNumber 45 = .ok (.getfield 33, 3) := by decide +kernel
theorem dX2_takeNumber_48 : decode cX2_takeNumber 48 = .ok (.iload_n 1, 1) := by decide +kernel
theorem dX2_takeNumber_49 : decode cX2_takeNumber 49 = .ok (.iaload, 1) := by decide +kernel
theorem dX2_takeNumber_50 : decode cX2_takeNumber 50 = .ok (.iadd, 1) := by decide +kernel
theorem dX2_takeNumber_51 : decode cX2_takeNumber 51 = .ok (.bipush 48, 2) := by decide +kernel
theorem dX2_takeNumber_53 : decode cX2_takeNumber 53 = .ok (.isub, 1) := by decide +kernel
theorem dX2_takeNumber_54 : decode cX2_takeNumber 54 = .ok (.putfield 27, 3) := by decide +kernel
theorem dX2_takeNumber_57 : decode cX2_takeNumber 57 = .ok (.iinc 1 1, 3) := by decide +kernel
theorem dX2_takeNumber_60 : decode cX2_takeNumber 60 = .ok (.goto (-32), 3) := by decide +kernel
theorem dX2_takeNumber_63 : decode cX2_takeNumber 63 = .ok (.aload_n 0, 1) := by decide +kernel
theorem dX2_takeNumber_64 : decode cX2_takeNumber 64 = .ok (.sipush 256, 3) := by decide +kernel
theorem dX2_takeNumber_67 : decode cX2_takeNumber 67 = .ok (.putfield 24, 3) := by decide +kernel
theorem dX2_takeNumber_70 : decode cX2_takeNumber 70 = .ok (.return_, 1) := by decide +kernel
theorem dX2_takeWord_0 : decode cX2_takeWord 0 = .ok (.aload_n 0, 1) := by decide +kernel
theorem dX2_takeWord_1 : decode cX2_takeWord 1 = .ok (.aload_n 0, 1) := by decide +kernel
theorem dX2_takeWord_2 : decode cX2_takeWord 2 = .ok (.ldc 101, 2) := by decide +kernel
theorem dX2_takeWord_4 : decode cX2_takeWord 4 = .ok (.invokevirtual 103, 3) := by decide +kernel
theorem dX2_takeWord_7 : decode cX2_takeWord 7 = .ok (.ifCond .eq 7, 3) := by decide +kernel
theorem dX2_takeWord_10 : decode cX2_takeWord 10 = .ok (.iconst 0, 1) := by decide +kernel
theorem dX2_takeWord_11 : decode cX2_takeWord 11 = .ok (.goto 69, 3) := by decide +kernel
theorem dX2_takeWord_14 : decode cX2_takeWord 14 = .ok (.aload_n 0, 1) := by decide +kernel
theorem dX2_takeWord_15 : decode cX2_takeWord 15 = .ok (.ldc 107, 2) := by decide +kernel
theorem dX2_takeWord_17 : decode cX2_takeWord 17 = .ok (.invokevirtual 103, 3) := by decide +kernel
theorem dX2_takeWord_20 : decode cX2_takeWord 20 = .ok (.ifCond .eq 7, 3) := by decide +kernel
theorem dX2_takeWord_23 : decode cX2_takeWord 23 = .ok (.iconst 1, 1) := by decide +kernel
theorem dX2_takeWord_24 : decode cX2_takeWord 24 = .ok (.goto 56, 3) := by decide +kernel
theorem dX2_takeWord_27 : decode cX2_takeWord 27 = .ok (.aload_n 0, 1) := by decide +kernel
theorem dX2_takeWord_28 : decode cX2_takeWord 28 = .ok (.ldc 109, 2) := by decide +kernel
theorem dX2_takeWord_30 : decode cX2_takeWord 30 = .ok (.invokevirtual 103, 3) := by decide +kernel
theorem dX2_takeWord_33 : decode cX2_takeWord 33 = .ok (.ifCond .eq 7, 3) := by decide +kernel
theorem dX2_takeWord_36 : decode cX2_takeWord 36 = .ok (.iconst 2, 1) := by decide +kernel
theorem dX2_takeWord_37 : decode cX2_takeWord 37 = .ok (.goto 43, 3) := by decide +kernel
theorem dX2_takeWord_40 : decode cX2_takeWord 40 = .ok (.aload_n 0, 1) := by decide +kernel
theorem dX2_takeWord_41 : decode cX2_takeWord 41 = .ok (.ldc 111, 2) := by decide +kernel
theorem dX2_takeWord_43 : decode cX2_takeWord 43 = .ok (.invokevirtual 103, 3) := by decide +kernel
theorem dX2_takeWord_46 : decode cX2_takeWord 46 = .ok (.ifCond .eq 7, 3) := by decide +kernel
theorem dX2_takeWord_49 : decode cX2_takeWord 49 = .ok (.iconst 3, 1) := by decide +kernel
theorem dX2_takeWord_50 : decode cX2_takeWord 50 = .ok (.goto 30, 3) := by decide +kernel
theorem dX2_takeWord_53 : decode cX2_takeWord 53 = .ok (.aload_n 0, 1) := by decide +kernel
theorem dX2_takeWord_54 : decode cX2_takeWord 54 = .ok (.ldc 113, 2) := by decide +kernel
theorem dX2_takeWord_56 : decode cX2_takeWord 56 = .ok (.invokevirtual 103, 3) := by decide +kernel
theorem dX2_takeWord_59 : decode cX2_takeWord 59 = .ok (.ifCond .eq 7, 3) := by decide +kernel
theorem dX2_takeWord_62 : decode cX2_takeWord 62 = .ok (.iconst 4, 1) := by decide +kernel
theorem dX2_takeWord_63 : decode cX2_takeWord 63 = .ok (.goto 17, 3) := by decide +kernel
theorem dX2_takeWord_66 : decode cX2_takeWord 66 = .ok (.aload_n 0, 1) := by decide +kernel
theorem dX2_takeWord_67 : decode cX2_takeWord 67 = .ok (.ldc 115, 2) := by decide +kernel
theorem dX2_takeWord_69 : decode cX2_takeWord 69 = .ok (.invokevirtual 103, 3) := by decide +kernel
theorem dX2_takeWord_72 : decode cX2_takeWord 72 = .ok (.ifCond .eq 7, 3) := by decide +kernel
theorem dX2_takeWord_75 : decode cX2_takeWord 75 = .ok (.iconst 5, 1) := by decide +kernel
theorem dX2_takeWord_76 : decode cX2_takeWord 76 = .ok (.goto 4, 3) := by decide +kernel
theorem dX2_takeWord_79 : decode cX2_takeWord 79 = .ok (.iconst (-1), 1) := by decide +kernel
theorem dX2_takeWord_80 : decode cX2_takeWord 80 = .ok (.putfield 27, 3) := by decide +kernel
theorem dX2_takeWord_83 : decode cX2_takeWord 83 = .ok (.aload_n 0, 1) := by decide +kernel
theorem dX2_takeWord_84 : decode cX2_takeWord 84 = .ok (.aload_n 0, 1) := by decide +kernel
theorem dX2_takeWord_85 : decode cX2_takeWord 85 = .ok (.getfield 27, 3) := by decide +kernel
theorem dX2_takeWord_88 : decode cX2_takeWord 88 = .ok (.iconst (-1), 1) := by decide +kernel
theorem dX2_takeWord_89 : decode cX2_takeWord 89 = .ok (.if_icmp .eq 9, 3) := by decide +kernel
theorem dX2_takeWord_92 : decode cX2_takeWord 92 = .ok (.sipush 257, 3) := by decide +kernel
theorem dX2_takeWord_95 : decode cX2_takeWord 95 = .ok (.goto 96, 3) := by decide +kernel
theorem dX2_takeWord_98 : decode cX2_takeWord 98 = .ok (.aload_n 0, 1) := by decide +kernel
theorem dX2_takeWord_99 : decode cX2_takeWord 99 = .ok (.ldc 117, 2) := by decide +kernel
theorem dX2_takeWord_101 : decode cX2_takeWord 101 = .ok (.invokevirtual 103, 3) := by decide +kernel
theorem dX2_takeWord_104 : decode cX2_takeWord 104 = .ok (.ifCond .eq 9, 3) := by decide +kernel
theorem dX2_takeWord_107 : decode cX2_takeWord 107 = .ok (.sipush 260, 3) := by decide +kernel
theorem dX2_takeWord_110 : decode cX2_takeWord 110 = .ok (.goto 81, 3) := by decide +kernel
theorem dX2_takeWord_113 : decode cX2_takeWord 113 = .ok (.aload_n 0, 1) := by decide +kernel
theorem dX2_takeWord_114 : decode cX2_takeWord 114 = .ok (.ldc 119, 2) := by decide +kernel
theorem dX2_takeWord_116 : decode cX2_takeWord 116 = .ok (.invokevirtual 103, 3) := by decide +kernel
theorem dX2_takeWord_119 : decode cX2_takeWord 119 = .ok (.ifCond .eq 9, 3) := by decide +kernel
theorem dX2_takeWord_122 : decode cX2_takeWord 122 = .ok (.sipush 261, 3) := by decide +kernel
theorem dX2_takeWord_125 : decode cX2_takeWord 125 = .ok (.goto 66, 3) := by decide +kernel
theorem dX2_takeWord_128 : decode cX2_takeWord 128 = .ok (.aload_n 0, 1) := by decide +kernel
theorem dX2_takeWord_129 : decode cX2_takeWord 129 = .ok (.ldc 121, 2) := by decide +kernel
theorem dX2_takeWord_131 : decode cX2_takeWord 131 = .ok (.invokevirtual 103, 3) := by decide +kernel
theorem dX2_takeWord_134 : decode cX2_takeWord 134 = .ok (.ifCond .eq 9, 3) := by decide +kernel
theorem dX2_takeWord_137 : decode cX2_takeWord 137 = .ok (.sipush 262, 3) := by decide +kernel
theorem dX2_takeWord_140 : decode cX2_takeWord 140 = .ok (.goto 51, 3) := by decide +kernel
theorem dX2_takeWord_143 : decode cX2_takeWord 143 = .ok (.aload_n 0, 1) := by decide +kernel
theorem dX2_takeWord_144 : decode cX2_takeWord 144 = .ok (.ldc 123, 2) := by decide +kernel
theorem dX2_takeWord_146 : decode cX2_takeWord 146 = .ok (.invokevirtual 103, 3) := by decide +kernel
theorem dX2_takeWord_149 : decode cX2_takeWord 149 = .ok (.ifCond .eq 9, 3) := by decide +kernel
theorem dX2_takeWord_152 : decode cX2_takeWord 152 = .ok (.sipush 263, 3) := by decide +kernel
theorem dX2_takeWord_155 : decode cX2_takeWord 155 = .ok (.goto 36, 3) := by decide +kernel
theorem dX2_takeWord_158 : decode cX2_takeWord 158 = .ok (.aload_n 0, 1) := by decide +kernel
theorem dX2_takeWord_159 : decode cX2_takeWord 159 = .ok (.ldc 125, 2) := by decide +kernel
theorem dX2_takeWord_161 : decode cX2_takeWord 161 = .ok (.invokevirtual 103, 3) := by decide +kernel
theorem dX2_takeWord_164 : decode cX2_takeWord 164 = .ok (.ifCond .eq 9, 3) := by decide +kernel
theorem dX2_takeWord_167 : decode cX2_takeWord 167 = .ok (.sipush 264, 3) := by decide +kernel
theorem dX2_takeWord_170 : decode cX2_takeWord 170 = .ok (.goto 21, 3) := by decide +kernel
theorem dX2_takeWord_173 : decode cX2_takeWord 173 = .ok (.aload_n 0, 1) := by decide +kernel
theorem dX2_takeWord_174 : decode cX2_takeWord 174 = .ok (.ldc 127, 2) := by decide +kernel
theorem dX2_takeWord_176 : decode cX2_takeWord 176 = .ok (.invokevirtual 103, 3) := by decide +kernel
theorem dX2_takeWord_179 : decode cX2_takeWord 179 = .ok (.ifCond .eq 9, 3) := by decide +kernel
theorem dX2_takeWord_182 : decode cX2_takeWord 182 = .ok (.sipush 265, 3) := by decide +kernel
theorem dX2_takeWord_185 : decode cX2_takeWord 185 = .ok (.goto 6, 3) := by decide +kernel
theorem dX2_takeWord_188 : decode cX2_takeWord 188 = .ok (.sipush 259, 3) := by decide +kernel
theorem dX2_takeWord_191 : decode cX2_takeWord 191 = .ok (.putfield 24, 3) := by decide +kernel
theorem dX2_takeWord_194 : decode cX2_takeWord 194 = .ok (.aload_n 0, 1) := by decide +kernel
theorem dX2_takeWord_195 : decode cX2_takeWord 195 = .ok (.getfield 24, 3) := by decide +kernel
theorem dX2_takeWord_198 : decode cX2_takeWord 198 = .ok (.sipush 259, 3) := by decide +kernel
theorem dX2_takeWord_201 : decode cX2_takeWord 201 = .ok (.if_icmp .ne 7, 3) := by decide +kernel
theorem dX2_takeWord_204 : decode cX2_takeWord 204 = .ok (.aload_n 0, 1) := by decide +kernel
theorem dX2_takeWord_205 : decode cX2_takeWord 205 = .ok (.invokevirtual 56, 3) := by decide +kernel
theorem dX2_takeWord_208 : decode cX2_takeWord 208 = .ok (.return_, 1) := by decide +kernel
theorem dX2_isWord_0 : decode cX2_isWord 0 = .ok (.aload_n 1, 1) := by decide +kernel
theorem dX2_isWord_1 : decode cX2_isWord 1 = .ok (.invokevirtual 129, 3) := by decide +kernel
theorem dX2_isWord_4 : decode cX2_isWord 4 = .ok (.aload_n 0, 1) := by decide +kernel
theorem dX2_isWord_5 : decode cX2_isWord 5 = .ok (.getfield 21, 3) := by decide +kernel
theorem dX2_isWord_8 : decode cX2_isWord 8 = .ok (.aload_n 0, 1) := by decide +kernel
theorem dX2_isWord_9 : decode cX2_isWord 9 = .ok (.getfield 18, 3) := by decide +kernel
theorem dX2_isWord_12 : decode cX2_isWord 12 = .ok (.isub, 1) := by decide +kernel
theorem dX2_isWord_13 : decode cX2_isWord 13 = .ok (.if_icmp .eq 5, 3) := by decide +kernel
theorem dX2_isWord_16 : decode cX2_isWord 16 = .ok (.iconst 0, 1) := by decide +kernel
theorem dX2_isWord_17 : decode cX2_isWord 17 = .ok (.ireturn, 1) := by decide +kernel
theorem dX2_isWord_18 : decode cX2_isWord 18 = .ok (.iconst 0, 1) := by decide +kernel
theorem dX2_isWord_19 : decode cX2_isWord 19 = .ok (.istore_n 2, 1) := by decide +kernel
theorem dX2_isWord_20 : decode cX2_isWord 20 = .ok (.iload_n 2, 1) := by decide +kernel
theorem dX2_isWord_21 : decode cX2_isWord 21 = .ok (.aload_n 1, 1) := by decide +kernel
theorem dX2_isWord_22 : decode cX2_isWord 22 = .ok (.invokevirtual 129, 3) := by decide +kernel
theorem dX2_isWord_25 : decode cX2_isWord 25 = .ok (.if_icmp .ge 30, 3) := by decide +kernel
theorem dX2_isWord_28 : decode cX2_isWord 28 = .ok (.aload_n 0, 1) := by decide +kernel
theorem dX2_isWord_29 : decode cX2_isWord 29 = .ok (.getfield 33, 3) := by decide +kernel
theorem dX2_isWord_32 : decode cX2_isWord 32 = .ok (.aload_n 0, 1) := by decide +kernel
theorem dX2_isWord_33 : decode cX2_isWord 33 = .ok (.getfield 18, 3) := by decide +kernel
theorem dX2_isWord_36 : decode cX2_isWord 36 = .ok (.iload_n 2, 1) := by decide +kernel
theorem dX2_isWord_37 : decode cX2_isWord 37 = .ok (.iadd, 1) := by decide +kernel
theorem dX2_isWord_38 : decode cX2_isWord 38 = .ok (.iaload, 1) := by decide +kernel
theorem dX2_isWord_39 : decode cX2_isWord 39 = .ok (.aload_n 1, 1) := by decide +kernel
theorem dX2_isWord_40 : decode cX2_isWord 40 = .ok (.iload_n 2, 1) := by decide +kernel
theorem dX2_isWord_41 : decode cX2_isWord 41 = .ok (.invokevirtual 135, 3) := by decide +kernel
theorem dX2_isWord_44 : decode cX2_isWord 44 = .ok (.if_icmp .eq 5, 3) := by decide +kernel
theorem dX2_isWord_47 : decode cX2_isWord 47 = .ok (.iconst 0, 1) := by decide +kernel
theorem dX2_isWord_48 : decode cX2_isWord 48 = .ok (.ireturn, 1) := by decide +kernel
theorem dX2_isWord_49 : decode cX2_isWord 49 = .ok (.iinc 2 1, 3) := by decide +kernel
theorem dX2_isWord_52 : decode cX2_isWord 52 = .ok (.goto (-32), 3) := by decide +kernel
theorem dX2_isWord_55 : decode cX2_isWord 55 = .ok (.iconst 1, 1) := by decide +kernel
theorem dX2_isWord_56 : decode cX2_isWord 56 = .ok (.ireturn, 1) := by decide +kernel
theorem dX3_init_0 : decode cX3_init 0 = .ok (.aload_n 0, 1) := by decide +kernel
theorem dX3_init_1 : decode cX3_init 1 = .ok (.invokespecial 3, 3) := by decide +kernel
theorem dX3_init_4 : decode cX3_init 4 = .ok (.aload_n 0, 1) := by decide +kernel
theorem dX3_init_5 : decode cX3_init 5 = .ok (.iconst 4, 1) := by decide +kernel
theorem dX3_init_6 : decode cX3_init 6 = .ok (.bipush 40, 2) := by decide +kernel
theorem dX3_init_8 : decode cX3_init 8 = .ok (.multianewarray 9 2, 4) := by decide +kernel
theorem dX3_init_12 : decode cX3_init 12 = .ok (.putfield 11, 3) := by decide +kernel
theorem dX3_init_15 : decode cX3_init 15 = .ok (.aload_n 0, 1) := by decide +kernel
theorem dX3_init_16 : decode cX3_init 16 = .ok (.iconst 4, 1) := by decide +kernel
theorem dX3_init_17 : decode cX3_init 17 = .ok (.newarray .int, 2) := by decide +kernel
theorem dX3_init_19 : decode cX3_init 19 = .ok (.dup, 1) := by decide +kernel
theorem dX3_init_20 : decode cX3_init 20 = .ok (.iconst 0, 1) := by decide +kernel
theorem dX3_init_21 : decode cX3_init 21 = .ok (.iconst (-1), 1) := by decide +kernel
theorem dX3_init_22 : decode cX3_init 22 = .ok (.iastore, 1) := by decide +kernel
theorem dX3_init_23 : decode cX3_init 23 = .ok (.dup, 1) := by decide +kernel
theorem dX3_init_24 : decode cX3_init 24 = .ok (.iconst 1, 1) := by decide +kernel
theorem dX3_init_25 : decode cX3_init 25 = .ok (.iconst (-1), 1) := by decide +kernel
theorem dX3_init_26 : decode cX3_init 26 = .ok (.iastore, 1) := by decide +kernel
theorem dX3_init_27 : decode cX3_init 27 = .ok (.dup, 1) := by decide +kernel
theorem dX3_init_28 : decode cX3_init 28 = .ok (.iconst 2, 1) := by decide +kernel
theorem dX3_init_29 : decode cX3_init 29 = .ok (.iconst (-1), 1) := by decide +kernel
theorem dX3_init_30 : decode cX3_init 30 = .ok (.iastore, 1) := by decide +kernel
theorem dX3_init_31 : decode cX3_init 31 = .ok (.dup, 1) := by decide +kernel
theorem dX3_init_32 : decode cX3_init 32 = .ok (.iconst 3, 1) := by decide +kernel
theorem dX3_init_33 : decode cX3_init 33 = .ok (.iconst (-1), 1) := by decide +kernel
theorem dX3_init_34 : decode cX3_init 34 = .ok (.iastore, 1) := by decide +kernel
theorem dX3_init_35 : decode cX3_init 35 = .ok (.putfield 16, 3) := by decide +kernel
theorem dX3_init_38 : decode cX3_init 38 = .ok (.aload_n 0, 1) := by decide +kernel
theorem dX3_init_39 : decode cX3_init 39 = .ok (.iconst 4, 1) := by decide +kernel
theorem dX3_init_40 : decode cX3_init 40 = .ok (.newarray .int, 2) := by decide +kernel
theorem dX3_init_42 : decode cX3_init 42 = .ok (.putfield 20, 3) := by decide +kernel
theorem dX3_init_45 : decode cX3_init 45 = .ok (.return_, 1) := by decide +kernel
theorem dX3_has_0 : decode cX3_has 0 = .ok (.iload_n 1, 1) := by decide +kernel
theorem dX3_has_1 : decode cX3_has 1 = .ok (.ifCond .lt 12, 3) := by decide +kernel
theorem dX3_has_4 : decode cX3_has 4 = .ok (.iload_n 1, 1) := by decide +kernel
theorem dX3_has_5 : decode cX3_has 5 = .ok (.iconst 4, 1) := by decide +kernel
theorem dX3_has_6 : decode cX3_has 6 = .ok (.if_icmp .ge 7, 3) := by decide +kernel
theorem dX3_has_9 : decode cX3_has 9 = .ok (.iconst 1, 1) := by decide +kernel
theorem dX3_has_10 : decode cX3_has 10 = .ok (.goto 4, 3) := by decide +kernel
theorem dX3_has_13 : decode cX3_has 13 = .ok (.iconst 0, 1) := by decide +kernel
theorem dX3_has_14 : decode cX3_has 14 = .ok (.ireturn, 1) := by decide +kernel
theorem dX3_lacks_0 : decode cX3_lacks 0 = .ok (.aload_n 0, 1) := by decide +kernel
theorem dX3_lacks_1 : decode cX3_lacks 1 = .ok (.iload_n 1, 1) := by decide +kernel
theorem dX3_lacks_2 : decode cX3_lacks 2 = .ok (.invokevirtual 23, 3) := by decide +kernel
theorem dX3_lacks_5 : decode cX3_lacks 5 = .ok (.ifCond .eq 13, 3) := by decide +kernel
theorem dX3_lacks_8 : decode cX3_lacks 8 = .ok (.aload_n 0, 1) := by decide +kernel
theorem dX3_lacks_9 : decode cX3_lacks 9 = .ok (.getfield 16, 3) := by decide +kernel
theorem dX3_lacks_12 : decode cX3_lacks 12 = .ok (.iload_n 1, 1) := by decide +kernel
theorem dX3_lacks_13 : decode cX3_lacks 13 = .ok (.iaload, 1) := by decide +kernel
theorem dX3_lacks_14 : decode cX3_lacks 14 = .ok (.iconst (-1), 1) := by decide +kernel
theorem dX3_lacks_15 : decode cX3_lacks 15 = .ok (.if_icmp .ne 7, 3) := by decide +kernel
theorem dX3_lacks_18 : decode cX3_lacks 18 = .ok (.iconst 1, 1) := by decide +kernel
theorem dX3_lacks_19 : decode cX3_lacks 19 = .ok (.goto 4, 3) := by decide +kernel
theorem dX3_lacks_22 : decode cX3_lacks 22 = .ok (.iconst 0, 1) := by decide +kernel
theorem dX3_lacks_23 : decode cX3_lacks 23 = .ok (.ireturn, 1) := by decide +kernel
theorem dX3_reaches_0 : decode cX3_reaches 0 = .ok (.aload_n 0, 1) := by decide +kernel
theorem dX3_reaches_1 : decode cX3_reaches 1 = .ok (.iload_n 1, 1) := by decide +kernel
theorem dX3_reaches_2 : decode cX3_reaches 2 = .ok (.invokevirtual 27, 3) := by decide +kernel
theorem dX3_reaches_5 : decode cX3_reaches 5 = .ok (.ifCond .ne 37, 3) := by decide +kernel
theorem dX3_reaches_8 : decode cX3_reaches 8 = .ok (.iload_n 2, 1) := by decide +kernel
theorem dX3_reaches_9 : decode cX3_reaches 9 = .ok (.ifCond .lt 33, 3) := by decide +kernel
theorem dX3_reaches_12 : decode cX3_reaches 12 = .ok (.iload_n 3, 1) := by decide +kernel
theorem dX3_reaches_13 : decode cX3_reaches 13 = .ok (.ifCond .lt 29, 3) := by decide +kernel
theorem dX3_reaches_16 : decode cX3_reaches 16 = .ok (.iload_n 2, 1) := by decide +kernel
theorem dX3_reaches_17 : decode cX3_reaches 17 = .ok (.aload_n 0, 1) := by decide +kernel
theorem dX3_reaches_18 : decode cX3_reaches 18 = .ok (.getfield 20, 3) := by decide +kernel
theorem dX3_reaches_21 : decode cX3_reaches 21 = .ok (.iload_n 1, 1) := by decide +kernel
theorem dX3_reaches_22 : decode cX3_reaches 22 = .ok (.iaload, 1) := by decide +kernel
theorem dX3_reaches_23 : decode cX3_reaches 23 = .ok (.if_icmp .gt 19, 3) := by decide +kernel
theorem dX3_reaches_26 : decode cX3_reaches 26 = .ok (.iload_n 3, 1) := by decide +kernel
theorem dX3_reaches_27 : decode cX3_reaches 27 = .ok (.aload_n 0, 1) := by decide +kernel
theorem dX3_reaches_28 : decode cX3_reaches 28 = .ok (.getfield 20, 3) := by decide +kernel
theorem dX3_reaches_31 : decode cX3_reaches 31 = .ok (.iload_n 1, 1) := by decide +kernel
theorem dX3_reaches_32 : decode cX3_reaches 32 = .ok (.iaload, 1) := by decide +kernel
theorem dX3_reaches_33 : decode cX3_reaches 33 = .ok (.iload_n 2, 1) := by decide +kernel
theorem dX3_reaches_34 : decode cX3_reaches 34 = .ok (.isub, 1) := by decide +kernel
theorem dX3_reaches_35 : decode cX3_reaches 35 = .ok (.if_icmp .gt 7, 3) := by decide +kernel
theorem dX3_reaches_38 : decode cX3_reaches 38 = .ok (.iconst 1, 1) := by decide +kernel
theorem dX3_reaches_39 : decode cX3_reaches 39 = .ok (.goto 4, 3) := by decide +kernel
theorem dX3_reaches_42 : decode cX3_reaches 42 = .ok (.iconst 0, 1) := by decide +kernel
theorem dX3_reaches_43 : decode cX3_reaches 43 = .ok (.ireturn, 1) := by decide +kernel
theorem dX3_lay_0 : decode cX3_lay 0 = .ok (.aload_n 0, 1) := by decide +kernel
theorem dX3_lay_1 : decode cX3_lay 1 = .ok (.iload_n 1, 1) := by decide +kernel
theorem dX3_lay_2 : decode cX3_lay 2 = .ok (.invokevirtual 23, 3) := by decide +kernel
theorem dX3_lay_5 : decode cX3_lay 5 = .ok (.ifCond .eq 45, 3) := by decide +kernel
theorem dX3_lay_8 : decode cX3_lay 8 = .ok (.aload_n 0, 1) := by decide +kernel
theorem dX3_lay_9 : decode cX3_lay 9 = .ok (.getfield 16, 3) := by decide +kernel
theorem dX3_lay_12 : decode cX3_lay 12 = .ok (.iload_n 1, 1) := by decide +kernel
theorem dX3_lay_13 : decode cX3_lay 13 = .ok (.iload_n 2, 1) := by decide +kernel
theorem dX3_lay_14 : decode cX3_lay 14 = .ok (.iastore, 1) := by decide +kernel
theorem dX3_lay_15 : decode cX3_lay 15 = .ok (.aload_n 0, 1) := by decide +kernel
theorem dX3_lay_16 : decode cX3_lay 16 = .ok (.getfield 20, 3) := by decide +kernel
theorem dX3_lay_19 : decode cX3_lay 19 = .ok (.iload_n 1, 1) := by decide +kernel
theorem dX3_lay_20 : decode cX3_lay 20 = .ok (.iload_n 2, 1) := by decide +kernel
theorem dX3_lay_21 : decode cX3_lay 21 = .ok (.iconst (-1), 1) := by decide +kernel
theorem dX3_lay_22 : decode cX3_lay 22 = .ok (.if_icmp .ne 7, 3) := by decide +kernel
theorem dX3_lay_25 : decode cX3_lay 25 = .ok (.iconst 0, 1) := by decide +kernel
theorem dX3_lay_26 : decode cX3_lay 26 = .ok (.goto 13, 3) := by decide +kernel
theorem dX3_lay_29 : decode cX3_lay 29 = .ok (.iconst 0, 1) := by decide +kernel
theorem dX3_lay_30 : decode cX3_lay 30 = .ok (.bipush 40, 2) := by decide +kernel
theorem dX3_lay_32 : decode cX3_lay 32 = .ok (.iload_n 3, 1) := by decide +kernel
theorem dX3_lay_33 : decode cX3_lay 33 = .ok (.invokestatic 30, 3) := by decide +kernel
theorem dX3_lay_36 : decode cX3_lay 36 = .ok (.invokestatic 36, 3) := by decide +kernel
theorem dX3_lay_39 : decode cX3_lay 39 = .ok (.iastore, 1) := by decide +kernel
theorem dX3_lay_40 : decode cX3_lay 40 = .ok (.aload_n 0, 1) := by decide +kernel
theorem dX3_lay_41 : decode cX3_lay 41 = .ok (.getfield 11, 3) := by decide +kernel
theorem dX3_lay_44 : decode cX3_lay 44 = .ok (.iload_n 1, 1) := by decide +kernel
theorem dX3_lay_45 : decode cX3_lay 45 = .ok (.aaload, 1) := by decide +kernel
theorem dX3_lay_46 : decode cX3_lay 46 = .ok (.iconst 0, 1) := by decide +kernel
theorem dX3_lay_47 : decode cX3_lay 47 = .ok (.invokestatic 39, 3) := by decide +kernel
theorem dX3_lay_50 : decode cX3_lay 50 = .ok (.return_, 1) := by decide +kernel
theorem dX3_item_0 : decode cX3_item 0 = .ok (.aload_n 0, 1) := by decide +kernel
theorem dX3_item_1 : decode cX3_item 1 = .ok (.iload_n 1, 1) := by decide +kernel
theorem dX3_item_2 : decode cX3_item 2 = .ok (.iload_n 2, 1) := by decide +kernel
theorem dX3_item_3 : decode cX3_item 3 = .ok (.iconst 1, 1) := by decide +kernel
theorem dX3_item_4 : decode cX3_item 4 = .ok (.invokevirtual 45, 3) := by decide +kernel
theorem dX3_item_7 : decode cX3_item 7 = .ok (.ifCond .eq 14, 3) := by decide +kernel
theorem dX3_item_10 : decode cX3_item 10 = .ok (.aload_n 0, 1) := by decide +kernel
theorem dX3_item_11 : decode cX3_item 11 = .ok (.getfield 11, 3) := by decide +kernel
theorem dX3_item_14 : decode cX3_item 14 = .ok (.iload_n 1, 1) := by decide +kernel
theorem dX3_item_15 : decode cX3_item 15 = .ok (.aaload, 1) := by decide +kernel
theorem dX3_item_16 : decode cX3_item 16 = .ok (.iload_n 2, 1) := by decide +kernel
theorem dX3_item_17 : decode cX3_item 17 = .ok (.iaload, 1) := by decide +kernel
theorem dX3_item_18 : decode cX3_item 18 = .ok (.goto 4, 3) := by decide +kernel
theorem dX3_item_21 : decode cX3_item 21 = .ok (.iconst 0, 1) := by decide +kernel
theorem dX3_item_22 : decode cX3_item 22 = .ok (.ireturn, 1) := by decide +kernel
theorem dX3_put_0 : decode cX3_put 0 = .ok (.aload_n 0, 1) := by decide +kernel
theorem dX3_put_1 : decode cX3_put 1 = .ok (.iload_n 1, 1) := by decide +kernel
theorem dX3_put_2 : decode cX3_put 2 = .ok (.iload_n 2, 1) := by decide +kernel
theorem dX3_put_3 : decode cX3_put 3 = .ok (.iconst 1, 1) := by decide +kernel
theorem dX3_put_4 : decode cX3_put 4 = .ok (.invokevirtual 45, 3) := by decide +kernel
theorem dX3_put_7 : decode cX3_put 7 = .ok (.ifCond .eq 41, 3) := by decide +kernel
theorem dX3_put_10 : decode cX3_put 10 = .ok (.aload_n 0, 1) := by decide +kernel
theorem dX3_put_11 : decode cX3_put 11 = .ok (.getfield 11, 3) := by decide +kernel
theorem dX3_put_14 : decode cX3_put 14 = .ok (.iload_n 1, 1) := by decide +kernel
theorem dX3_put_15 : decode cX3_put 15 = .ok (.aaload, 1) := by decide +kernel
theorem dX3_put_16 : decode cX3_put 16 = .ok (.iload_n 2, 1) := by decide +kernel
theorem dX3_put_17 : decode cX3_put 17 = .ok (.aload_n 0, 1) := by decide +kernel
theorem dX3_put_18 : decode cX3_put 18 = .ok (.getfield 16, 3) := by decide +kernel
theorem dX3_put_21 : decode cX3_put 21 = .ok (.iload_n 1, 1) := by decide +kernel
theorem dX3_put_22 : decode cX3_put 22 = .ok (.iaload, 1) := by decide +kernel
theorem dX3_put_23 : decode cX3_put 23 = .ok (.ifCond .ne 8, 3) := by decide +kernel
theorem dX3_put_26 : decode cX3_put 26 = .ok (.iload_n 3, 1) := by decide +kernel
theorem dX3_put_27 : decode cX3_put 27 = .ok (.i2b, 1) := by decide +kernel
theorem dX3_put_28 : decode cX3_put 28 = .ok (.goto 19, 3) := by decide +kernel
theorem dX3_put_31 : decode cX3_put 31 = .ok (.aload_n 0, 1) := by decide +kernel
theorem dX3_put_32 : decode cX3_put 32 = .ok (.getfield 16, 3) := by decide +kernel
theorem dX3_put_35 : decode cX3_put 35 = .ok (.iload_n 1, 1) := by decide +kernel
theorem dX3_put_36 : decode cX3_put 36 = .ok (.iaload, 1) := by decide +kernel
theorem dX3_put_37 : decode cX3_put 37 = .ok (.iconst 1, 1) := by decide +kernel
theorem dX3_put_38 : decode cX3_put 38 = .ok (.if_icmp .ne 8, 3) := by decide +kernel
theorem dX3_put_41 : decode cX3_put 41 = .ok (.iload_n 3, 1) := by decide +kernel
theorem dX3_put_42 : decode cX3_put 42 = .ok (.i2s, 1) := by decide +kernel
theorem dX3_put_43 : decode cX3_put 43 = .ok (.goto 4, 3) := by decide +kernel
theorem dX3_put_46 : decode cX3_put 46 = .ok (.iload_n 3, 1) := by decide +kernel
theorem dX3_put_47 : decode cX3_put 47 = .ok (.iastore, 1) := by decide +kernel
theorem dX3_put_48 : decode cX3_put 48 = .ok (.return_, 1) := by decide +kernel
