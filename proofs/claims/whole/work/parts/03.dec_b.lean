theorem dX4_init_0 : decode cX4_init 0 = .ok (.aload_n 0, 1) := by decide +kernel
theorem dX4_init_1 : decode cX4_init 1 = .ok (.invokespecial 3, 3) := by decide +kernel
theorem dX4_init_4 : decode cX4_init 4 = .ok (.aload_n 0, 1) := by decide +kernel
theorem dX4_init_5 : decode cX4_init 5 = .ok (.sipush 403, 3) := by decide +kernel
theorem dX4_init_8 : decode cX4_init 8 = .ok (.newarray .int, 2) := by decide +kernel
theorem dX4_init_10 : decode cX4_init 10 = .ok (.putfield 11, 3) := by decide +kernel
theorem dX4_init_13 : decode cX4_init 13 = .ok (.aload_n 0, 1) := by decide +kernel
theorem dX4_init_14 : decode cX4_init 14 = .ok (.sipush 403, 3) := by decide +kernel
theorem dX4_init_17 : decode cX4_init 17 = .ok (.newarray .int, 2) := by decide +kernel
theorem dX4_init_19 : decode cX4_init 19 = .ok (.putfield 15, 3) := by decide +kernel
theorem dX4_init_22 : decode cX4_init 22 = .ok (.aload_n 0, 1) := by decide +kernel
theorem dX4_init_23 : decode cX4_init 23 = .ok (.sipush 403, 3) := by decide +kernel
theorem dX4_init_26 : decode cX4_init 26 = .ok (.newarray .int, 2) := by decide +kernel
theorem dX4_init_28 : decode cX4_init 28 = .ok (.putfield 18, 3) := by decide +kernel
theorem dX4_init_31 : decode cX4_init 31 = .ok (.aload_n 0, 1) := by decide +kernel
theorem dX4_init_32 : decode cX4_init 32 = .ok (.bipush 20, 2) := by decide +kernel
theorem dX4_init_34 : decode cX4_init 34 = .ok (.newarray .int, 2) := by decide +kernel
theorem dX4_init_36 : decode cX4_init 36 = .ok (.putfield 21, 3) := by decide +kernel
theorem dX4_init_39 : decode cX4_init 39 = .ok (.aload_n 0, 1) := by decide +kernel
theorem dX4_init_40 : decode cX4_init 40 = .ok (.bipush 20, 2) := by decide +kernel
theorem dX4_init_42 : decode cX4_init 42 = .ok (.newarray .int, 2) := by decide +kernel
theorem dX4_init_44 : decode cX4_init 44 = .ok (.putfield 24, 3) := by decide +kernel
theorem dX4_init_47 : decode cX4_init 47 = .ok (.aload_n 0, 1) := by decide +kernel
theorem dX4_init_48 : decode cX4_init 48 = .ok (.bipush 40, 2) := by decide +kernel
theorem dX4_init_50 : decode cX4_init 50 = .ok (.newarray .int, 2) := by decide +kernel
theorem dX4_init_52 : decode cX4_init 52 = .ok (.putfield 27, 3) := by decide +kernel
theorem dX4_init_55 : decode cX4_init 55 = .ok (.aload_n 0, 1) := by decide +kernel
theorem dX4_init_56 : decode cX4_init 56 = .ok (.bipush 12, 2) := by decide +kernel
theorem dX4_init_58 : decode cX4_init 58 = .ok (.newarray .int, 2) := by decide +kernel
theorem dX4_init_60 : decode cX4_init 60 = .ok (.putfield 30, 3) := by decide +kernel
theorem dX4_init_63 : decode cX4_init 63 = .ok (.aload_n 0, 1) := by decide +kernel
theorem dX4_init_64 : decode cX4_init 64 = .ok (.iconst 5, 1) := by decide +kernel
theorem dX4_init_65 : decode cX4_init 65 = .ok (.newarray .int, 2) := by decide +kernel
theorem dX4_init_67 : decode cX4_init 67 = .ok (.putfield 33, 3) := by decide +kernel
theorem dX4_init_70 : decode cX4_init 70 = .ok (.aload_n 0, 1) := by decide +kernel
theorem dX4_init_71 : decode cX4_init 71 = .ok (.iconst 4, 1) := by decide +kernel
theorem dX4_init_72 : decode cX4_init 72 = .ok (.newarray .int, 2) := by decide +kernel
theorem dX4_init_74 : decode cX4_init 74 = .ok (.putfield 36, 3) := by decide +kernel
theorem dX4_init_77 : decode cX4_init 77 = .ok (.aload_n 0, 1) := by decide +kernel
theorem dX4_init_78 : decode cX4_init 78 = .ok (.iconst (-1), 1) := by decide +kernel
theorem dX4_init_79 : decode cX4_init 79 = .ok (.putfield 39, 3) := by decide +kernel
theorem dX4_init_82 : decode cX4_init 82 = .ok (.aload_n 0, 1) := by decide +kernel
theorem dX4_init_83 : decode cX4_init 83 = .ok (.iconst 0, 1) := by decide +kernel
theorem dX4_init_84 : decode cX4_init 84 = .ok (.putfield 43, 3) := by decide +kernel
theorem dX4_init_87 : decode cX4_init 87 = .ok (.aload_n 0, 1) := by decide +kernel
theorem dX4_init_88 : decode cX4_init 88 = .ok (.aload_n 1, 1) := by decide +kernel
theorem dX4_init_89 : decode cX4_init 89 = .ok (.putfield 47, 3) := by decide +kernel
theorem dX4_init_92 : decode cX4_init 92 = .ok (.aload_n 0, 1) := by decide +kernel
theorem dX4_init_93 : decode cX4_init 93 = .ok (.aload_n 2, 1) := by decide +kernel
theorem dX4_init_94 : decode cX4_init 94 = .ok (.putfield 51, 3) := by decide +kernel
theorem dX4_init_97 : decode cX4_init 97 = .ok (.return_, 1) := by decide +kernel
theorem dX4_forget_0 : decode cX4_forget 0 = .ok (.aload_n 0, 1) := by decide +kernel
theorem dX4_forget_1 : decode cX4_forget 1 = .ok (.iconst (-1), 1) := by decide +kernel
theorem dX4_forget_2 : decode cX4_forget 2 = .ok (.putfield 39, 3) := by decide +kernel
theorem dX4_forget_5 : decode cX4_forget 5 = .ok (.return_, 1) := by decide +kernel
theorem dX4_tells_0 : decode cX4_tells 0 = .ok (.iload_n 1, 1) := by decide +kernel
theorem dX4_tells_1 : decode cX4_tells 1 = .ok (.ifCond .lt 25, 3) := by decide +kernel
theorem dX4_tells_4 : decode cX4_tells 4 = .ok (.iload_n 1, 1) := by decide +kernel
theorem dX4_tells_5 : decode cX4_tells 5 = .ok (.sipush 403, 3) := by decide +kernel
theorem dX4_tells_8 : decode cX4_tells 8 = .ok (.if_icmp .ge 18, 3) := by decide +kernel
theorem dX4_tells_11 : decode cX4_tells 11 = .ok (.aload_n 0, 1) := by decide +kernel
theorem dX4_tells_12 : decode cX4_tells 12 = .ok (.getfield 11, 3) := by decide +kernel
theorem dX4_tells_15 : decode cX4_tells 15 = .ok (.iload_n 1, 1) := by decide +kernel
theorem dX4_tells_16 : decode cX4_tells 16 = .ok (.iaload, 1) := by decide +kernel
theorem dX4_tells_17 : decode cX4_tells 17 = .ok (.ldc 55, 2) := by decide +kernel
theorem dX4_tells_19 : decode cX4_tells 19 = .ok (.if_icmp .eq 7, 3) := by decide +kernel
theorem dX4_tells_22 : decode cX4_tells 22 = .ok (.iconst 1, 1) := by decide +kernel
theorem dX4_tells_23 : decode cX4_tells 23 = .ok (.goto 4, 3) := by decide +kernel
theorem dX4_tells_26 : decode cX4_tells 26 = .ok (.iconst 0, 1) := by decide +kernel
theorem dX4_tells_27 : decode cX4_tells 27 = .ok (.ireturn, 1) := by decide +kernel
theorem dX4_leastOf_0 : decode cX4_leastOf 0 = .ok (.aload_n 0, 1) := by decide +kernel
theorem dX4_leastOf_1 : decode cX4_leastOf 1 = .ok (.iload_n 1, 1) := by decide +kernel
theorem dX4_leastOf_2 : decode cX4_leastOf 2 = .ok (.invokevirtual 56, 3) := by decide +kernel
theorem dX4_leastOf_5 : decode cX4_leastOf 5 = .ok (.ifCond .eq 16, 3) := by decide +kernel
theorem dX4_leastOf_8 : decode cX4_leastOf 8 = .ok (.aload_n 0, 1) := by decide +kernel
theorem dX4_leastOf_9 : decode cX4_leastOf 9 = .ok (.getfield 11, 3) := by decide +kernel
theorem dX4_leastOf_12 : decode cX4_leastOf 12 = .ok (.iload_n 1, 1) := by decide +kernel
theorem dX4_leastOf_13 : decode cX4_leastOf 13 = .ok (.iaload, 1) := by decide +kernel
theorem dX4_leastOf_14 : decode cX4_leastOf 14 = .ok (.sipush 10000, 3) := by decide +kernel
theorem dX4_leastOf_17 : decode cX4_leastOf 17 = .ok (.idiv, 1) := by decide +kernel
theorem dX4_leastOf_18 : decode cX4_leastOf 18 = .ok (.goto 4, 3) := by decide +kernel
theorem dX4_leastOf_21 : decode cX4_leastOf 21 = .ok (.iconst (-1), 1) := by decide +kernel
theorem dX4_leastOf_22 : decode cX4_leastOf 22 = .ok (.ireturn, 1) := by decide +kernel
theorem dX4_firstOf_0 : decode cX4_firstOf 0 = .ok (.aload_n 0, 1) := by decide +kernel
theorem dX4_firstOf_1 : decode cX4_firstOf 1 = .ok (.iload_n 1, 1) := by decide +kernel
theorem dX4_firstOf_2 : decode cX4_firstOf 2 = .ok (.invokevirtual 56, 3) := by decide +kernel
theorem dX4_firstOf_5 : decode cX4_firstOf 5 = .ok (.ifCond .eq 16, 3) := by decide +kernel
theorem dX4_firstOf_8 : decode cX4_firstOf 8 = .ok (.aload_n 0, 1) := by decide +kernel
theorem dX4_firstOf_9 : decode cX4_firstOf 9 = .ok (.getfield 11, 3) := by decide +kernel
theorem dX4_firstOf_12 : decode cX4_firstOf 12 = .ok (.iload_n 1, 1) := by decide +kernel
theorem dX4_firstOf_13 : decode cX4_firstOf 13 = .ok (.iaload, 1) := by decide +kernel
theorem dX4_firstOf_14 : decode cX4_firstOf 14 = .ok (.sipush 10000, 3) := by decide +kernel
theorem dX4_firstOf_17 : decode cX4_firstOf 17 = .ok (.irem, 1) := by decide +kernel
theorem dX4_firstOf_18 : decode cX4_firstOf 18 = .ok (.goto 4, 3) := by decide +kernel
theorem dX4_firstOf_21 : decode cX4_firstOf 21 = .ok (.iconst (-1), 1) := by decide +kernel
theorem dX4_firstOf_22 : decode cX4_firstOf 22 = .ok (.ireturn, 1) := by decide +kernel
theorem dX4_cheapestOf_0 : decode cX4_cheapestOf 0 = .ok (.aload_n 0, 1) := by decide +kernel
theorem dX4_cheapestOf_1 : decode cX4_cheapestOf 1 = .ok (.iload_n 1, 1) := by decide +kernel
theorem dX4_cheapestOf_2 : decode cX4_cheapestOf 2 = .ok (.invokevirtual 56, 3) := by decide +kernel
theorem dX4_cheapestOf_5 : decode cX4_cheapestOf 5 = .ok (.ifCond .eq 12, 3) := by decide +kernel
theorem dX4_cheapestOf_8 : decode cX4_cheapestOf 8 = .ok (.aload_n 0, 1) := by decide +kernel
theorem dX4_cheapestOf_9 : decode cX4_cheapestOf 9 = .ok (.getfield 15, 3) := by decide +kernel
theorem dX4_cheapestOf_12 : decode cX4_cheapestOf 12 = .ok (.iload_n 1, 1) := by decide +kernel
theorem dX4_cheapestOf_13 : decode cX4_cheapestOf 13 = .ok (.iaload, 1) := by decide +kernel
theorem dX4_cheapestOf_14 : decode cX4_cheapestOf 14 = .ok (.goto 4, 3) := by decide +kernel
theorem dX4_cheapestOf_17 : decode cX4_cheapestOf 17 = .ok (.iconst (-1), 1) := by decide +kernel
theorem dX4_cheapestOf_18 : decode cX4_cheapestOf 18 = .ok (.ireturn, 1) := by decide +kernel
theorem dX4_liesBetween_0 : decode cX4_liesBetween 0 = .ok (.iload_n 1, 1) := by decide +kernel
theorem dX4_liesBetween_1 : decode cX4_liesBetween 1 = .ok (.ifCond .lt 24, 3) := by decide +kernel
theorem dX4_liesBetween_4 : decode cX4_liesBetween 4 = .ok (.iload_n 1, 1) := by decide +kernel
theorem dX4_liesBetween_5 : decode cX4_liesBetween 5 = .ok (.sipush 403, 3) := by decide +kernel
theorem dX4_liesBetween_8 : decode cX4_liesBetween 8 = .ok (.if_icmp .ge 17, 3) := by decide +kernel
theorem dX4_liesBetween_11 : decode cX4_liesBetween 11 = .ok (.aload_n 0, 1) := by decide +kernel
theorem dX4_liesBetween_12 : decode cX4_liesBetween 12 = .ok (.getfield 18, 3) := by decide +kernel
theorem dX4_liesBetween_15 : decode cX4_liesBetween 15 = .ok (.iload_n 1, 1) := by decide +kernel
theorem dX4_liesBetween_16 : decode cX4_liesBetween 16 = .ok (.iaload, 1) := by decide +kernel
theorem dX4_liesBetween_17 : decode cX4_liesBetween 17 = .ok (.iconst 1, 1) := by decide +kernel
theorem dX4_liesBetween_18 : decode cX4_liesBetween 18 = .ok (.if_icmp .ne 7, 3) := by decide +kernel
theorem dX4_liesBetween_21 : decode cX4_liesBetween 21 = .ok (.iconst 1, 1) := by decide +kernel
theorem dX4_liesBetween_22 : decode cX4_liesBetween 22 = .ok (.goto 4, 3) := by decide +kernel
theorem dX4_liesBetween_25 : decode cX4_liesBetween 25 = .ok (.iconst 0, 1) := by decide +kernel
theorem dX4_liesBetween_26 : decode cX4_liesBetween 26 = .ok (.ireturn, 1) := by decide +kernel
theorem dX4_search_0 : decode cX4_search 0 = .ok (.aload_n 0, 1) := by decide +kernel
theorem dX4_search_1 : decode cX4_search 1 = .ok (.getfield 39, 3) := by decide +kernel
theorem dX4_search_4 : decode cX4_search 4 = .ok (.iload_n 1, 1) := by decide +kernel
theorem dX4_search_5 : decode cX4_search 5 = .ok (.if_icmp .ne 15, 3) := by decide +kernel
theorem dX4_search_8 : decode cX4_search 8 = .ok (.aload_n 0, 1) := by decide +kernel
theorem dX4_search_9 : decode cX4_search 9 = .ok (.getfield 43, 3) := by decide +kernel
theorem dX4_search_12 : decode cX4_search 12 = .ok (.ifCond .ne 7, 3) := by decide +kernel
theorem dX4_search_15 : decode cX4_search 15 = .ok (.iload_n 2, 1) := by decide +kernel
theorem dX4_search_16 : decode cX4_search 16 = .ok (.ifCond .ne 4, 3) := by decide +kernel
theorem dX4_search_19 : decode cX4_search 19 = .ok (.return_, 1) := by decide +kernel
theorem dX4_search_20 : decode cX4_search 20 = .ok (.aload_n 0, 1) := by decide +kernel
theorem dX4_search_21 : decode cX4_search 21 = .ok (.aload_n 0, 1) := by decide +kernel
theorem dX4_search_22 : decode cX4_search 22 = .ok (.getfield 47, 3) := by decide +kernel
theorem dX4_search_25 : decode cX4_search 25 = .ok (.getfield 60, 3) := by decide +kernel
theorem dX4_search_28 : decode cX4_search 28 = .ok (.invokevirtual 65, 3) := by decide +kernel
theorem dX4_search_31 : decode cX4_search 31 = .ok (.pop, 1) := by decide +kernel
theorem dX4_search_32 : decode cX4_search 32 = .ok (.aload_n 0, 1) := by decide +kernel
theorem dX4_search_33 : decode cX4_search 33 = .ok (.iload_n 1, 1) := by decide +kernel
theorem dX4_search_34 : decode cX4_search 34 = .ok (.iload_n 2, 1) := by decide +kernel
theorem dX4_search_35 : decode cX4_search 35 = .ok (.invokevirtual 68, 3) := by decide +kernel
theorem dX4_search_38 : decode cX4_search 38 = .ok (.aload_n 0, 1) := by decide +kernel
theorem dX4_search_39 : decode cX4_search 39 = .ok (.iload_n 1, 1) := by decide +kernel
theorem dX4_search_40 : decode cX4_search 40 = .ok (.putfield 39, 3) := by decide +kernel
theorem dX4_search_43 : decode cX4_search 43 = .ok (.return_, 1) := by decide +kernel
theorem dX4_inAnyDamp_0 : decode cX4_inAnyDamp 0 = .ok (.aload_n 0, 1) := by decide +kernel
theorem dX4_inAnyDamp_1 : decode cX4_inAnyDamp 1 = .ok (.invokevirtual 72, 3) := by decide +kernel
theorem dX4_inAnyDamp_4 : decode cX4_inAnyDamp 4 = .ok (.ldc2_w 75, 3) := by decide +kernel
theorem dX4_inAnyDamp_7 : decode cX4_inAnyDamp 7 = .ok (.lstore_n 2, 1) := by decide +kernel
theorem dX4_inAnyDamp_8 : decode cX4_inAnyDamp 8 = .ok (.iconst 0, 1) := by decide +kernel
theorem dX4_inAnyDamp_9 : decode cX4_inAnyDamp 9 = .ok (.istore 4, 2) := by decide +kernel
theorem dX4_inAnyDamp_11 : decode cX4_inAnyDamp 11 = .ok (.iload 4, 2) := by decide +kernel
theorem dX4_inAnyDamp_13 : decode cX4_inAnyDamp 13 = .ok (.bipush 9, 2) := by decide +kernel
theorem dX4_inAnyDamp_15 : decode cX4_inAnyDamp 15 = .ok (.if_icmp .gt 42, 3) := by decide +kernel
theorem dX4_inAnyDamp_18 : decode cX4_inAnyDamp 18 = .ok (.lload_n 2, 1) := by decide +kernel
theorem dX4_inAnyDamp_19 : decode cX4_inAnyDamp 19 = .ok (.lconst 0, 1) := by decide +kernel
theorem dX4_inAnyDamp_20 : decode cX4_inAnyDamp 20 = .ok (.lcmp, 1) := by decide +kernel
theorem dX4_inAnyDamp_21 : decode cX4_inAnyDamp 21 = .ok (.ifCond .eq 36, 3) := by decide +kernel
theorem dX4_inAnyDamp_24 : decode cX4_inAnyDamp 24 = .ok (.aload_n 0, 1) := by decide +kernel
theorem dX4_inAnyDamp_25 : decode cX4_inAnyDamp 25 = .ok (.iload 4, 2) := by decide +kernel
theorem dX4_inAnyDamp_27 : decode cX4_inAnyDamp 27 = .ok (.invokevirtual 65, 3) := by decide +kernel
theorem dX4_inAnyDamp_30 : decode cX4_inAnyDamp 30 = .ok (.ifCond .ne 8, 3) := by decide +kernel
theorem dX4_inAnyDamp_33 : decode cX4_inAnyDamp 33 = .ok (.iload 4, 2) := by decide +kernel
theorem dX4_inAnyDamp_35 : decode cX4_inAnyDamp 35 = .ok (.ifCond .ne 16, 3) := by decide +kernel
theorem dX4_inAnyDamp_38 : decode cX4_inAnyDamp 38 = .ok (.aload_n 0, 1) := by decide +kernel
theorem dX4_inAnyDamp_39 : decode cX4_inAnyDamp 39 = .ok (.iload_n 1, 1) := by decide +kernel
theorem dX4_inAnyDamp_40 : decode cX4_inAnyDamp 40 = .ok (.iconst 0, 1) := by decide +kernel
theorem dX4_inAnyDamp_41 : decode cX4_inAnyDamp 41 = .ok (.invokevirtual 68, 3) := by decide +kernel
theorem dX4_inAnyDamp_44 : decode cX4_inAnyDamp 44 = .ok (.lload_n 2, 1) := by decide +kernel
theorem dX4_inAnyDamp_45 : decode cX4_inAnyDamp 45 = .ok (.aload_n 0, 1) := by decide +kernel
theorem dX4_inAnyDamp_46 : decode cX4_inAnyDamp 46 = .ok (.invokevirtual 77, 3) := by decide +kernel
theorem dX4_inAnyDamp_49 : decode cX4_inAnyDamp 49 = .ok (.land, 1) := by decide +kernel
theorem dX4_inAnyDamp_50 : decode cX4_inAnyDamp 50 = .ok (.lstore_n 2, 1) := by decide +kernel
theorem dX4_inAnyDamp_51 : decode cX4_inAnyDamp 51 = .ok (.iinc 4 1, 3) := by decide +kernel
theorem dX4_inAnyDamp_54 : decode cX4_inAnyDamp 54 = .ok (.goto (-43), 3) := by decide +kernel
theorem dX4_inAnyDamp_57 : decode cX4_inAnyDamp 57 = .ok (.lload_n 2, 1) := by decide +kernel
theorem dX4_inAnyDamp_58 : decode cX4_inAnyDamp 58 = .ok (.lreturn, 1) := by decide +kernel
theorem dX4_sureBits_0 : decode cX4_sureBits 0 = .ok (.lconst 0, 1) := by decide +kernel
theorem dX4_sureBits_1 : decode cX4_sureBits 1 = .ok (.lstore_n 1, 1) := by decide +kernel
theorem dX4_sureBits_2 : decode cX4_sureBits 2 = .ok (.iconst 1, 1) := by decide +kernel
theorem dX4_sureBits_3 : decode cX4_sureBits 3 = .ok (.istore_n 3, 1) := by decide +kernel
theorem dX4_sureBits_4 : decode cX4_sureBits 4 = .ok (.iload_n 3, 1) := by decide +kernel
theorem dX4_sureBits_5 : decode cX4_sureBits 5 = .ok (.bipush 60, 2) := by decide +kernel
theorem dX4_sureBits_7 : decode cX4_sureBits 7 = .ok (.if_icmp .gt 23, 3) := by decide +kernel
theorem dX4_sureBits_10 : decode cX4_sureBits 10 = .ok (.aload_n 0, 1) := by decide +kernel
theorem dX4_sureBits_11 : decode cX4_sureBits 11 = .ok (.iload_n 3, 1) := by decide +kernel
theorem dX4_sureBits_12 : decode cX4_sureBits 12 = .ok (.invokevirtual 56, 3) := by decide +kernel
theorem dX4_sureBits_15 : decode cX4_sureBits 15 = .ok (.ifCond .eq 9, 3) := by decide +kernel
theorem dX4_sureBits_18 : decode cX4_sureBits 18 = .ok (.lload_n 1, 1) := by decide +kernel
theorem dX4_sureBits_19 : decode cX4_sureBits 19 = .ok (.lconst 1, 1) := by decide +kernel
theorem dX4_sureBits_20 : decode cX4_sureBits 20 = .ok (.iload_n 3, 1) := by decide +kernel
theorem dX4_sureBits_21 : decode cX4_sureBits 21 = .ok (.lshl, 1) := by decide +kernel
theorem dX4_sureBits_22 : decode cX4_sureBits 22 = .ok (.lor, 1) := by decide +kernel
theorem dX4_sureBits_23 : decode cX4_sureBits 23 = .ok (.lstore_n 1, 1) := by decide +kernel
theorem dX4_sureBits_24 : decode cX4_sureBits 24 = .ok (.iinc 3 1, 3) := by decide +kernel
theorem dX4_sureBits_27 : decode cX4_sureBits 27 = .ok (.goto (-23), 3) := by decide +kernel
theorem dX4_sureBits_30 : decode cX4_sureBits 30 = .ok (.lload_n 1, 1) := by decide +kernel
theorem dX4_sureBits_31 : decode cX4_sureBits 31 = .ok (.lreturn, 1) := by decide +kernel
theorem dX4_takeSpeeds_0 : decode cX4_takeSpeeds 0 = .ok (.iconst 0, 1) := by decide +kernel
theorem dX4_takeSpeeds_1 : decode cX4_takeSpeeds 1 = .ok (.istore_n 2, 1) := by decide +kernel
theorem dX4_takeSpeeds_2 : decode cX4_takeSpeeds 2 = .ok (.iconst 0, 1) := by decide +kernel
theorem dX4_takeSpeeds_3 : decode cX4_takeSpeeds 3 = .ok (.istore_n 3, 1) := by decide +kernel
theorem dX4_takeSpeeds_4 : decode cX4_takeSpeeds 4 = .ok (.iload_n 3, 1) := by decide +kernel
theorem dX4_takeSpeeds_5 : decode cX4_takeSpeeds 5 = .ok (.iconst 4, 1) := by decide +kernel
theorem dX4_takeSpeeds_6 : decode cX4_takeSpeeds 6 = .ok (.if_icmp .ge 68, 3) := by decide +kernel
theorem dX4_takeSpeeds_9 : decode cX4_takeSpeeds 9 = .ok (.iconst 0, 1) := by decide +kernel
theorem dX4_takeSpeeds_10 : decode cX4_takeSpeeds 10 = .ok (.istore 4, 2) := by decide +kernel
theorem dX4_takeSpeeds_12 : decode cX4_takeSpeeds 12 = .ok (.iload 4, 2) := by decide +kernel
theorem dX4_takeSpeeds_14 : decode cX4_takeSpeeds 14 = .ok (.iconst 2, 1) := by decide +kernel
theorem dX4_takeSpeeds_15 : decode cX4_takeSpeeds 15 = .ok (.if_icmp .gt 53, 3) := by decide +kernel
theorem dX4_takeSpeeds_18 : decode cX4_takeSpeeds 18 = .ok (.iload_n 3, 1) := by decide +kernel
theorem dX4_takeSpeeds_19 : decode cX4_takeSpeeds 19 = .ok (.iconst 3, 1) := by decide +kernel
theorem dX4_takeSpeeds_20 : decode cX4_takeSpeeds 20 = .ok (.imul, 1) := by decide +kernel
theorem dX4_takeSpeeds_21 : decode cX4_takeSpeeds 21 = .ok (.iload 4, 2) := by decide +kernel
theorem dX4_takeSpeeds_23 : decode cX4_takeSpeeds 23 = .ok (.iadd, 1) := by decide +kernel
theorem dX4_takeSpeeds_24 : decode cX4_takeSpeeds 24 = .ok (.istore 5, 2) := by decide +kernel
theorem dX4_takeSpeeds_26 : decode cX4_takeSpeeds 26 = .ok (.aload_n 0, 1) := by decide +kernel
theorem dX4_takeSpeeds_27 : decode cX4_takeSpeeds 27 = .ok (.getfield 47, 3) := by decide +kernel
theorem dX4_takeSpeeds_30 : decode cX4_takeSpeeds 30 = .ok (.iload_n 3, 1) := by decide +kernel
theorem dX4_takeSpeeds_31 : decode cX4_takeSpeeds 31 = .ok (.iload 4, 2) := by decide +kernel
theorem dX4_takeSpeeds_33 : decode cX4_takeSpeeds 33 = .ok (.iload_n 1, 1) := by decide +kernel
theorem dX4_takeSpeeds_34 : decode cX4_takeSpeeds 34 = .ok (.invokevirtual 81, 3) := by decide +kernel
theorem dX4_takeSpeeds_37 : decode cX4_takeSpeeds 37 = .ok (.istore 6, 2) := by decide +kernel
theorem dX4_takeSpeeds_39 : decode cX4_takeSpeeds 39 = .ok (.aload_n 0, 1) := by decide +kernel
theorem dX4_takeSpeeds_40 : decode cX4_takeSpeeds 40 = .ok (.getfield 30, 3) := by decide +kernel
theorem dX4_takeSpeeds_43 : decode cX4_takeSpeeds 43 = .ok (.iload 5, 2) := by decide +kernel
theorem dX4_takeSpeeds_45 : decode cX4_takeSpeeds 45 = .ok (.iaload, 1) := by decide +kernel
theorem dX4_takeSpeeds_46 : decode cX4_takeSpeeds 46 = .ok (.iload 6, 2) := by decide +kernel
theorem dX4_takeSpeeds_48 : decode cX4_takeSpeeds 48 = .ok (.if_icmp .eq 14, 3) := by decide +kernel
theorem dX4_takeSpeeds_51 : decode cX4_takeSpeeds 51 = .ok (.aload_n 0, 1) := by decide +kernel
theorem dX4_takeSpeeds_52 : decode cX4_takeSpeeds 52 = .ok (.getfield 30, 3) := by decide +kernel
theorem dX4_takeSpeeds_55 : decode cX4_takeSpeeds 55 = .ok (.iload 5, 2) := by decide +kernel
theorem dX4_takeSpeeds_57 : decode cX4_takeSpeeds 57 = .ok (.iload 6, 2) := by decide +kernel
theorem dX4_takeSpeeds_59 : decode cX4_takeSpeeds 59 = .ok (.iastore, 1) := by decide +kernel
theorem dX4_takeSpeeds_60 : decode cX4_takeSpeeds 60 = .ok (.iconst 1, 1) := by decide +kernel
theorem dX4_takeSpeeds_61 : decode cX4_takeSpeeds 61 = .ok (.istore_n 2, 1) := by decide +kernel
theorem dX4_takeSpeeds_62 : decode cX4_takeSpeeds 62 = .ok (.iinc 4 1, 3) := by decide +kernel
theorem dX4_takeSpeeds_65 : decode cX4_takeSpeeds 65 = .ok (.goto (-53), 3) := by decide +kernel
theorem dX4_takeSpeeds_68 : decode cX4_takeSpeeds 68 = .ok (.iinc 3 1, 3) := by decide +kernel
theorem dX4_takeSpeeds_71 : decode cX4_takeSpeeds 71 = .ok (.goto (-67), 3) := by decide +kernel
theorem dX4_takeSpeeds_74 : decode cX4_takeSpeeds 74 = .ok (.iload_n 2, 1) := by decide +kernel
theorem dX4_takeSpeeds_75 : decode cX4_takeSpeeds 75 = .ok (.ireturn, 1) := by decide +kernel
theorem dX4_goThrough_0 : decode cX4_goThrough 0 = .ok (.aload_n 0, 1) := by decide +kernel
theorem dX4_goThrough_1 : decode cX4_goThrough 1 = .ok (.getfield 11, 3) := by decide +kernel
theorem dX4_goThrough_4 : decode cX4_goThrough 4 = .ok (.ldc 55, 2) := by decide +kernel
theorem dX4_goThrough_6 : decode cX4_goThrough 6 = .ok (.invokestatic 85, 3) := by decide +kernel
theorem dX4_goThrough_9 : decode cX4_goThrough 9 = .ok (.aload_n 0, 1) := by decide +kernel
theorem dX4_goThrough_10 : decode cX4_goThrough 10 = .ok (.getfield 15, 3) := by decide +kernel
theorem dX4_goThrough_13 : decode cX4_goThrough 13 = .ok (.ldc 55, 2) := by decide +kernel
theorem dX4_goThrough_15 : decode cX4_goThrough 15 = .ok (.invokestatic 85, 3) := by decide +kernel
theorem dX4_goThrough_18 : decode cX4_goThrough 18 = .ok (.aload_n 0, 1) := by decide +kernel
theorem dX4_goThrough_19 : decode cX4_goThrough 19 = .ok (.getfield 18, 3) := by decide +kernel
theorem dX4_goThrough_22 : decode cX4_goThrough 22 = .ok (.iconst 0, 1) := by decide +kernel
theorem dX4_goThrough_23 : decode cX4_goThrough 23 = .ok (.invokestatic 85, 3) := by decide +kernel
theorem dX4_goThrough_26 : decode cX4_goThrough 26 = .ok (.aload_n 0, 1) := by decide +kernel
theorem dX4_goThrough_27 : decode cX4_goThrough 27 = .ok (.getfield 27, 3) := by decide +kernel
theorem dX4_goThrough_30 : decode cX4_goThrough 30 = .ok (.iconst 0, 1) := by decide +kernel
theorem dX4_goThrough_31 : decode cX4_goThrough 31 = .ok (.invokestatic 85, 3) := by decide +kernel
theorem dX4_goThrough_34 : decode cX4_goThrough 34 = .ok (.aload_n 0, 1) := by decide +kernel
theorem dX4_goThrough_35 : decode cX4_goThrough 35 = .ok (.iload_n 2, 1) := by decide +kernel
theorem dX4_goThrough_36 : decode cX4_goThrough 36 = .ok (.putfield 43, 3) := by decide +kernel
theorem dX4_goThrough_39 : decode cX4_goThrough 39 = .ok (.iconst 1, 1) := by decide +kernel
theorem dX4_goThrough_40 : decode cX4_goThrough 40 = .ok (.istore_n 3, 1) := by decide +kernel
theorem dX4_goThrough_41 : decode cX4_goThrough 41 = .ok (.iconst 3, 1) := by decide +kernel
theorem dX4_goThrough_42 : decode cX4_goThrough 42 = .ok (.istore 4, 2) := by decide +kernel
theorem dX4_goThrough_44 : decode cX4_goThrough 44 = .ok (.iload 4, 2) := by decide +kernel
theorem dX4_goThrough_46 : decode cX4_goThrough 46 = .ok (.ifCond .lt 77, 3) := by decide +kernel
theorem dX4_goThrough_49 : decode cX4_goThrough 49 = .ok (.aload_n 0, 1) := by decide +kernel
theorem dX4_goThrough_50 : decode cX4_goThrough 50 = .ok (.getfield 36, 3) := by decide +kernel
theorem dX4_goThrough_53 : decode cX4_goThrough 53 = .ok (.iload 4, 2) := by decide +kernel
theorem dX4_goThrough_55 : decode cX4_goThrough 55 = .ok (.iload_n 3, 1) := by decide +kernel
theorem dX4_goThrough_56 : decode cX4_goThrough 56 = .ok (.iastore, 1) := by decide +kernel
theorem dX4_goThrough_57 : decode cX4_goThrough 57 = .ok (.iload_n 3, 1) := by decide +kernel
theorem dX4_goThrough_58 : decode cX4_goThrough 58 = .ok (.iload 4, 2) := by decide +kernel
theorem dX4_goThrough_60 : decode cX4_goThrough 60 = .ok (.aload_n 0, 1) := by decide +kernel
theorem dX4_goThrough_61 : decode cX4_goThrough 61 = .ok (.getfield 47, 3) := by decide +kernel
theorem dX4_goThrough_64 : decode cX4_goThrough 64 = .ok (.getfield 91, 3) := by decide +kernel
theorem dX4_goThrough_67 : decode cX4_goThrough 67 = .ok (.if_icmp .ge 8, 3) := by decide +kernel
theorem dX4_goThrough_70 : decode cX4_goThrough 70 = .ok (.bipush 10, 2) := by decide +kernel
theorem dX4_goThrough_72 : decode cX4_goThrough 72 = .ok (.goto 4, 3) := by decide +kernel
theorem dX4_goThrough_75 : decode cX4_goThrough 75 = .ok (.iconst 1, 1) := by decide +kernel
theorem dX4_goThrough_76 : decode cX4_goThrough 76 = .ok (.imul, 1) := by decide +kernel
theorem dX4_goThrough_77 : decode cX4_goThrough 77 = .ok (.istore_n 3, 1) := by decide +kernel
theorem dX4_goThrough_78 : decode cX4_goThrough 78 = .ok (.aload_n 0, 1) := by decide +kernel
theorem dX4_goThrough_79 : decode cX4_goThrough 79 = .ok (.getfield 21, 3) := by decide +kernel
theorem dX4_goThrough_82 : decode cX4_goThrough 82 = .ok (.iload 4, 2) := by decide +kernel
theorem dX4_goThrough_84 : decode cX4_goThrough 84 = .ok (.iload_n 1, 1) := by decide +kernel
theorem dX4_goThrough_85 : decode cX4_goThrough 85 = .ok (.iload 4, 2) := by decide +kernel
theorem dX4_goThrough_87 : decode cX4_goThrough 87 = .ok (.ishr, 1) := by decide +kernel
theorem dX4_goThrough_88 : decode cX4_goThrough 88 = .ok (.iconst 1, 1) := by decide +kernel
theorem dX4_goThrough_89 : decode cX4_goThrough 89 = .ok (.iand, 1) := by decide +kernel
theorem dX4_goThrough_90 : decode cX4_goThrough 90 = .ok (.iconst 1, 1) := by decide +kernel
theorem dX4_goThrough_91 : decode cX4_goThrough 91 = .ok (.if_icmp .ne 16, 3) := by decide +kernel
theorem dX4_goThrough_94 : decode cX4_goThrough 94 = .ok (.aload_n 0, 1) := by decide +kernel
theorem dX4_goThrough_95 : decode cX4_goThrough 95 = .ok (.getfield 47, 3) := by decide +kernel
theorem dX4_goThrough_98 : decode cX4_goThrough 98 = .ok (.getfield 94, 3) := by decide +kernel
theorem dX4_goThrough_101 : decode cX4_goThrough 101 = .ok (.iload 4, 2) := by decide +kernel
theorem dX4_goThrough_103 : decode cX4_goThrough 103 = .ok (.iaload, 1) := by decide +kernel
theorem dX4_goThrough_104 : decode cX4_goThrough 104 = .ok (.goto 4, 3) := by decide +kernel
theorem dX4_goThrough_107 : decode cX4_goThrough 107 = .ok (.iconst 0, 1) := by decide +kernel
theorem dX4_goThrough_108 : decode cX4_goThrough 108 = .ok (.iastore, 1) := by decide +kernel
theorem dX4_goThrough_109 : decode cX4_goThrough 109 = .ok (.aload_n 0, 1) := by decide +kernel
theorem dX4_goThrough_110 : decode cX4_goThrough 110 = .ok (.getfield 24, 3) := by decide +kernel
theorem dX4_goThrough_113 : decode cX4_goThrough 113 = .ok (.iload 4, 2) := by decide +kernel
theorem dX4_goThrough_115 : decode cX4_goThrough 115 = .ok (.iconst 0, 1) := by decide +kernel
theorem dX4_goThrough_116 : decode cX4_goThrough 116 = .ok (.iastore, 1) := by decide +kernel
theorem dX4_goThrough_117 : decode cX4_goThrough 117 = .ok (.iinc 4 (-1), 3) := by decide +kernel
theorem dX4_goThrough_120 : decode cX4_goThrough 120 = .ok (.goto (-76), 3) := by decide +kernel
theorem dX4_goThrough_123 : decode cX4_goThrough 123 = .ok (.aload_n 0, 1) := by decide +kernel
theorem dX4_goThrough_124 : decode cX4_goThrough 124 = .ok (.iconst 0, 1) := by decide +kernel
theorem dX4_goThrough_125 : decode cX4_goThrough 125 = .ok (.iconst 0, 1) := by decide +kernel
theorem dX4_goThrough_126 : decode cX4_goThrough 126 = .ok (.invokevirtual 95, 3) := by decide +kernel
theorem dX4_goThrough_129 : decode cX4_goThrough 129 = .ok (.aload_n 0, 1) := by decide +kernel
theorem dX4_goThrough_130 : decode cX4_goThrough 130 = .ok (.iconst 0, 1) := by decide +kernel
theorem dX4_goThrough_131 : decode cX4_goThrough 131 = .ok (.iconst 0, 1) := by decide +kernel
theorem dX4_goThrough_132 : decode cX4_goThrough 132 = .ok (.iconst 0, 1) := by decide +kernel
theorem dX4_goThrough_133 : decode cX4_goThrough 133 = .ok (.iconst 0, 1) := by decide +kernel
theorem dX4_goThrough_134 : decode cX4_goThrough 134 = .ok (.iconst 0, 1) := by decide +kernel
theorem dX4_goThrough_135 : decode cX4_goThrough 135 = .ok (.iconst 0, 1) := by decide +kernel
theorem dX4_goThrough_136 : decode cX4_goThrough 136 = .ok (.invokevirtual 99, 3) := by decide +kernel
theorem dX4_goThrough_139 : decode cX4_goThrough 139 = .ok (.return_, 1) := by decide +kernel
theorem dX4_choose_0 : decode cX4_choose 0 = .ok (.iload_n 1, 1) := by decide +kernel
theorem dX4_choose_1 : decode cX4_choose 1 = .ok (.iconst 5, 1) := by decide +kernel
theorem dX4_choose_2 : decode cX4_choose 2 = .ok (.if_icmp .lt 4, 3) := by decide +kernel
theorem dX4_choose_5 : decode cX4_choose 5 = .ok (.return_, 1) := by decide +kernel
theorem dX4_choose_6 : decode cX4_choose 6 = .ok (.aload_n 0, 1) := by decide +kernel
theorem dX4_choose_7 : decode cX4_choose 7 = .ok (.iload_n 1, 1) := by decide +kernel
theorem dX4_choose_8 : decode cX4_choose 8 = .ok (.iload_n 2, 1) := by decide +kernel
theorem dX4_choose_9 : decode cX4_choose 9 = .ok (.invokevirtual 103, 3) := by decide +kernel
theorem dX4_choose_12 : decode cX4_choose 12 = .ok (.istore 7, 2) := by decide +kernel
theorem dX4_choose_14 : decode cX4_choose 14 = .ok (.iload 7, 2) := by decide +kernel
theorem dX4_choose_16 : decode cX4_choose 16 = .ok (.iconst 4, 1) := by decide +kernel
theorem dX4_choose_17 : decode cX4_choose 17 = .ok (.if_icmp .lt 16, 3) := by decide +kernel
theorem dX4_choose_20 : decode cX4_choose 20 = .ok (.aload_n 0, 1) := by decide +kernel
theorem dX4_choose_21 : decode cX4_choose 21 = .ok (.iload_n 1, 1) := by decide +kernel
theorem dX4_choose_22 : decode cX4_choose 22 = .ok (.iload_n 3, 1) := by decide +kernel
theorem dX4_choose_23 : decode cX4_choose 23 = .ok (.iload 4, 2) := by decide +kernel
theorem dX4_choose_25 : decode cX4_choose 25 = .ok (.iload 5, 2) := by decide +kernel
theorem dX4_choose_27 : decode cX4_choose 27 = .ok (.iload 6, 2) := by decide +kernel
theorem dX4_choose_29 : decode cX4_choose 29 = .ok (.invokevirtual 107, 3) := by decide +kernel
theorem dX4_choose_32 : decode cX4_choose 32 = .ok (.return_, 1) := by decide +kernel
theorem dX4_choose_33 : decode cX4_choose 33 = .ok (.iload_n 1, 1) := by decide +kernel
theorem dX4_choose_34 : decode cX4_choose 34 = .ok (.iconst 4, 1) := by decide +kernel
theorem dX4_choose_35 : decode cX4_choose 35 = .ok (.imul, 1) := by decide +kernel
theorem dX4_choose_36 : decode cX4_choose 36 = .ok (.iload 7, 2) := by decide +kernel
theorem dX4_choose_38 : decode cX4_choose 38 = .ok (.iadd, 1) := by decide +kernel
theorem dX4_choose_39 : decode cX4_choose 39 = .ok (.istore 8, 2) := by decide +kernel
theorem dX4_choose_41 : decode cX4_choose 41 = .ok (.iload_n 1, 1) := by decide +kernel
theorem dX4_choose_42 : decode cX4_choose 42 = .ok (.ifCond .ne 13, 3) := by decide +kernel
theorem dX4_choose_45 : decode cX4_choose 45 = .ok (.aload_n 0, 1) := by decide +kernel
theorem dX4_choose_46 : decode cX4_choose 46 = .ok (.getfield 36, 3) := by decide +kernel
theorem dX4_choose_49 : decode cX4_choose 49 = .ok (.iload 7, 2) := by decide +kernel
theorem dX4_choose_51 : decode cX4_choose 51 = .ok (.iaload, 1) := by decide +kernel
theorem dX4_choose_52 : decode cX4_choose 52 = .ok (.goto 4, 3) := by decide +kernel
theorem dX4_choose_55 : decode cX4_choose 55 = .ok (.iconst 0, 1) := by decide +kernel
theorem dX4_choose_56 : decode cX4_choose 56 = .ok (.istore 9, 2) := by decide +kernel
theorem dX4_choose_58 : decode cX4_choose 58 = .ok (.aload_n 0, 1) := by decide +kernel
theorem dX4_choose_59 : decode cX4_choose 59 = .ok (.getfield 24, 3) := by decide +kernel
theorem dX4_choose_62 : decode cX4_choose 62 = .ok (.iload 8, 2) := by decide +kernel
theorem dX4_choose_64 : decode cX4_choose 64 = .ok (.iaload, 1) := by decide +kernel
theorem dX4_choose_65 : decode cX4_choose 65 = .ok (.istore 10, 2) := by decide +kernel
theorem dX4_choose_67 : decode cX4_choose 67 = .ok (.iload 5, 2) := by decide +kernel
theorem dX4_choose_69 : decode cX4_choose 69 = .ok (.istore 11, 2) := by decide +kernel
theorem dX4_choose_71 : decode cX4_choose 71 = .ok (.iload 10, 2) := by decide +kernel
theorem dX4_choose_73 : decode cX4_choose 73 = .ok (.istore 12, 2) := by decide +kernel
theorem dX4_choose_75 : decode cX4_choose 75 = .ok (.iload 12, 2) := by decide +kernel
theorem dX4_choose_77 : decode cX4_choose 77 = .ok (.aload_n 0, 1) := by decide +kernel
theorem dX4_choose_78 : decode cX4_choose 78 = .ok (.iload 7, 2) := by decide +kernel
theorem dX4_choose_80 : decode cX4_choose 80 = .ok (.invokevirtual 111, 3) := by decide +kernel
theorem dX4_choose_83 : decode cX4_choose 83 = .ok (.if_icmp .gt 73, 3) := by decide +kernel
theorem dX4_choose_86 : decode cX4_choose 86 = .ok (.aload_n 0, 1) := by decide +kernel
theorem dX4_choose_87 : decode cX4_choose 87 = .ok (.getfield 24, 3) := by decide +kernel
theorem dX4_choose_90 : decode cX4_choose 90 = .ok (.iload 8, 2) := by decide +kernel
theorem dX4_choose_92 : decode cX4_choose 92 = .ok (.iload 12, 2) := by decide +kernel
theorem dX4_choose_94 : decode cX4_choose 94 = .ok (.iastore, 1) := by decide +kernel
theorem dX4_choose_95 : decode cX4_choose 95 = .ok (.aload_n 0, 1) := by decide +kernel
theorem dX4_choose_96 : decode cX4_choose 96 = .ok (.iload_n 1, 1) := by decide +kernel
theorem dX4_choose_97 : decode cX4_choose 97 = .ok (.iload 7, 2) := by decide +kernel
theorem dX4_choose_99 : decode cX4_choose 99 = .ok (.iconst 1, 1) := by decide +kernel
theorem dX4_choose_100 : decode cX4_choose 100 = .ok (.iadd, 1) := by decide +kernel
theorem dX4_choose_101 : decode cX4_choose 101 = .ok (.iload_n 3, 1) := by decide +kernel
theorem dX4_choose_102 : decode cX4_choose 102 = .ok (.iload 4, 2) := by decide +kernel
theorem dX4_choose_104 : decode cX4_choose 104 = .ok (.iload 12, 2) := by decide +kernel
theorem dX4_choose_106 : decode cX4_choose 106 = .ok (.iadd, 1) := by decide +kernel
theorem dX4_choose_107 : decode cX4_choose 107 = .ok (.iload 10, 2) := by decide +kernel
theorem dX4_choose_109 : decode cX4_choose 109 = .ok (.isub, 1) := by decide +kernel
theorem dX4_choose_110 : decode cX4_choose 110 = .ok (.iload 11, 2) := by decide +kernel
theorem dX4_choose_112 : decode cX4_choose 112 = .ok (.iload 6, 2) := by decide +kernel
theorem dX4_choose_114 : decode cX4_choose 114 = .ok (.iload 12, 2) := by decide +kernel
theorem dX4_choose_116 : decode cX4_choose 116 = .ok (.iload 9, 2) := by decide +kernel
theorem dX4_choose_118 : decode cX4_choose 118 = .ok (.imul, 1) := by decide +kernel
theorem dX4_choose_119 : decode cX4_choose 119 = .ok (.iadd, 1) := by decide +kernel
theorem dX4_choose_120 : decode cX4_choose 120 = .ok (.invokevirtual 99, 3) := by decide +kernel
theorem dX4_choose_123 : decode cX4_choose 123 = .ok (.iload 11, 2) := by decide +kernel
theorem dX4_choose_125 : decode cX4_choose 125 = .ok (.iload 12, 2) := by decide +kernel
theorem dX4_choose_127 : decode cX4_choose 127 = .ok (.iconst 2, 1) := by decide +kernel
theorem dX4_choose_128 : decode cX4_choose 128 = .ok (.if_icmp .ge 18, 3) := by decide +kernel
theorem dX4_choose_131 : decode cX4_choose 131 = .ok (.aload_n 0, 1) := by decide +kernel
theorem dX4_choose_132 : decode cX4_choose 132 = .ok (.getfield 27, 3) := by decide +kernel
theorem dX4_choose_135 : decode cX4_choose 135 = .ok (.iload 8, 2) := by decide +kernel
theorem dX4_choose_137 : decode cX4_choose 137 = .ok (.iconst 2, 1) := by decide +kernel
theorem dX4_choose_138 : decode cX4_choose 138 = .ok (.imul, 1) := by decide +kernel
theorem dX4_choose_139 : decode cX4_choose 139 = .ok (.iload 12, 2) := by decide +kernel
theorem dX4_choose_141 : decode cX4_choose 141 = .ok (.iadd, 1) := by decide +kernel
theorem dX4_choose_142 : decode cX4_choose 142 = .ok (.iaload, 1) := by decide +kernel
theorem dX4_choose_143 : decode cX4_choose 143 = .ok (.goto 4, 3) := by decide +kernel
theorem dX4_choose_146 : decode cX4_choose 146 = .ok (.iconst 0, 1) := by decide +kernel
theorem dX4_choose_147 : decode cX4_choose 147 = .ok (.iadd, 1) := by decide +kernel
theorem dX4_choose_148 : decode cX4_choose 148 = .ok (.istore 11, 2) := by decide +kernel
theorem dX4_choose_150 : decode cX4_choose 150 = .ok (.iinc 12 1, 3) := by decide +kernel
theorem dX4_choose_153 : decode cX4_choose 153 = .ok (.goto (-78), 3) := by decide +kernel
theorem dX4_choose_156 : decode cX4_choose 156 = .ok (.aload_n 0, 1) := by decide +kernel
theorem dX4_choose_157 : decode cX4_choose 157 = .ok (.getfield 24, 3) := by decide +kernel
theorem dX4_choose_160 : decode cX4_choose 160 = .ok (.iload 8, 2) := by decide +kernel
theorem dX4_choose_162 : decode cX4_choose 162 = .ok (.iload 10, 2) := by decide +kernel
theorem dX4_choose_164 : decode cX4_choose 164 = .ok (.iastore, 1) := by decide +kernel
theorem dX4_choose_165 : decode cX4_choose 165 = .ok (.return_, 1) := by decide +kernel
theorem dX4_usefulEnds_0 : decode cX4_usefulEnds 0 = .ok (.aload_n 0, 1) := by decide +kernel
theorem dX4_usefulEnds_1 : decode cX4_usefulEnds 1 = .ok (.getfield 30, 3) := by decide +kernel
theorem dX4_usefulEnds_4 : decode cX4_usefulEnds 4 = .ok (.iload_n 1, 1) := by decide +kernel
theorem dX4_usefulEnds_5 : decode cX4_usefulEnds 5 = .ok (.iconst 3, 1) := by decide +kernel
theorem dX4_usefulEnds_6 : decode cX4_usefulEnds 6 = .ok (.imul, 1) := by decide +kernel
theorem dX4_usefulEnds_7 : decode cX4_usefulEnds 7 = .ok (.iconst 2, 1) := by decide +kernel
theorem dX4_usefulEnds_8 : decode cX4_usefulEnds 8 = .ok (.iadd, 1) := by decide +kernel
theorem dX4_usefulEnds_9 : decode cX4_usefulEnds 9 = .ok (.iaload, 1) := by decide +kernel
theorem dX4_usefulEnds_10 : decode cX4_usefulEnds 10 = .ok (.aload_n 0, 1) := by decide +kernel
theorem dX4_usefulEnds_11 : decode cX4_usefulEnds 11 = .ok (.getfield 30, 3) := by decide +kernel
theorem dX4_usefulEnds_14 : decode cX4_usefulEnds 14 = .ok (.iload_n 1, 1) := by decide +kernel
theorem dX4_usefulEnds_15 : decode cX4_usefulEnds 15 = .ok (.iconst 3, 1) := by decide +kernel
theorem dX4_usefulEnds_16 : decode cX4_usefulEnds 16 = .ok (.imul, 1) := by decide +kernel
theorem dX4_usefulEnds_17 : decode cX4_usefulEnds 17 = .ok (.iconst 1, 1) := by decide +kernel
theorem dX4_usefulEnds_18 : decode cX4_usefulEnds 18 = .ok (.iadd, 1) := by decide +kernel
theorem dX4_usefulEnds_19 : decode cX4_usefulEnds 19 = .ok (.iaload, 1) := by decide +kernel
theorem dX4_usefulEnds_20 : decode cX4_usefulEnds 20 = .ok (.if_icmp .le 7, 3) := by decide +kernel
theorem dX4_usefulEnds_23 : decode cX4_usefulEnds 23 = .ok (.iconst 2, 1) := by decide +kernel
theorem dX4_usefulEnds_24 : decode cX4_usefulEnds 24 = .ok (.goto 4, 3) := by decide +kernel
theorem dX4_usefulEnds_27 : decode cX4_usefulEnds 27 = .ok (.iconst 1, 1) := by decide +kernel
theorem dX4_usefulEnds_28 : decode cX4_usefulEnds 28 = .ok (.ireturn, 1) := by decide +kernel
theorem dX4_withParts_0 : decode cX4_withParts 0 = .ok (.iload_n 2, 1) := by decide +kernel
theorem dX4_withParts_1 : decode cX4_withParts 1 = .ok (.istore_n 3, 1) := by decide +kernel
theorem dX4_withParts_2 : decode cX4_withParts 2 = .ok (.iload_n 3, 1) := by decide +kernel
theorem dX4_withParts_3 : decode cX4_withParts 3 = .ok (.iconst 4, 1) := by decide +kernel
theorem dX4_withParts_4 : decode cX4_withParts 4 = .ok (.if_icmp .ge 24, 3) := by decide +kernel
theorem dX4_withParts_7 : decode cX4_withParts 7 = .ok (.aload_n 0, 1) := by decide +kernel
theorem dX4_withParts_8 : decode cX4_withParts 8 = .ok (.getfield 21, 3) := by decide +kernel
theorem dX4_withParts_11 : decode cX4_withParts 11 = .ok (.iload_n 1, 1) := by decide +kernel
theorem dX4_withParts_12 : decode cX4_withParts 12 = .ok (.iconst 4, 1) := by decide +kernel
theorem dX4_withParts_13 : decode cX4_withParts 13 = .ok (.imul, 1) := by decide +kernel
theorem dX4_withParts_14 : decode cX4_withParts 14 = .ok (.iload_n 3, 1) := by decide +kernel
theorem dX4_withParts_15 : decode cX4_withParts 15 = .ok (.iadd, 1) := by decide +kernel
theorem dX4_withParts_16 : decode cX4_withParts 16 = .ok (.iaload, 1) := by decide +kernel
theorem dX4_withParts_17 : decode cX4_withParts 17 = .ok (.ifCond .le 5, 3) := by decide +kernel
theorem dX4_withParts_20 : decode cX4_withParts 20 = .ok (.iload_n 3, 1) := by decide +kernel
theorem dX4_withParts_21 : decode cX4_withParts 21 = .ok (.ireturn, 1) := by decide +kernel
theorem dX4_withParts_22 : decode cX4_withParts 22 = .ok (.iinc 3 1, 3) := by decide +kernel
theorem dX4_withParts_25 : decode cX4_withParts 25 = .ok (.goto (-23), 3) := by decide +kernel
theorem dX4_withParts_28 : decode cX4_withParts 28 = .ok (.iconst 4, 1) := by decide +kernel
theorem dX4_withParts_29 : decode cX4_withParts 29 = .ok (.ireturn, 1) := by decide +kernel
theorem dX4_untilAnyIsOut_0 : decode cX4_untilAnyIsOut 0 = .ok (.aload_n 0, 1) := by decide +kernel
theorem dX4_untilAnyIsOut_1 : decode cX4_untilAnyIsOut 1 = .ok (.iload_n 1, 1) := by decide +kernel
theorem dX4_untilAnyIsOut_2 : decode cX4_untilAnyIsOut 2 = .ok (.invokevirtual 115, 3) := by decide +kernel
theorem dX4_untilAnyIsOut_5 : decode cX4_untilAnyIsOut 5 = .ok (.istore 6, 2) := by decide +kernel
theorem dX4_untilAnyIsOut_7 : decode cX4_untilAnyIsOut 7 = .ok (.iload_n 2, 1) := by decide +kernel
theorem dX4_untilAnyIsOut_8 : decode cX4_untilAnyIsOut 8 = .ok (.iload 6, 2) := by decide +kernel
theorem dX4_untilAnyIsOut_10 : decode cX4_untilAnyIsOut 10 = .ok (.iadd, 1) := by decide +kernel
theorem dX4_untilAnyIsOut_11 : decode cX4_untilAnyIsOut 11 = .ok (.istore 7, 2) := by decide +kernel
theorem dX4_untilAnyIsOut_13 : decode cX4_untilAnyIsOut 13 = .ok (.iload 6, 2) := by decide +kernel
theorem dX4_untilAnyIsOut_15 : decode cX4_untilAnyIsOut 15 = .ok (.ifCond .le 18, 3) := by decide +kernel
theorem dX4_untilAnyIsOut_18 : decode cX4_untilAnyIsOut 18 = .ok (.iload 7, 2) := by decide +kernel
theorem dX4_untilAnyIsOut_20 : decode cX4_untilAnyIsOut 20 = .ok (.sipush 403, 3) := by decide +kernel
theorem dX4_untilAnyIsOut_23 : decode cX4_untilAnyIsOut 23 = .ok (.if_icmp .ge 10, 3) := by decide +kernel
theorem dX4_untilAnyIsOut_26 : decode cX4_untilAnyIsOut 26 = .ok (.iload_n 1, 1) := by decide +kernel
theorem dX4_untilAnyIsOut_27 : decode cX4_untilAnyIsOut 27 = .ok (.iconst 1, 1) := by decide +kernel
theorem dX4_untilAnyIsOut_28 : decode cX4_untilAnyIsOut 28 = .ok (.iadd, 1) := by decide +kernel
theorem dX4_untilAnyIsOut_29 : decode cX4_untilAnyIsOut 29 = .ok (.iconst 5, 1) := by decide +kernel
theorem dX4_untilAnyIsOut_30 : decode cX4_untilAnyIsOut 30 = .ok (.if_icmp .lt 4, 3) := by decide +kernel
theorem dX4_untilAnyIsOut_33 : decode cX4_untilAnyIsOut 33 = .ok (.return_, 1) := by decide +kernel
theorem dX4_untilAnyIsOut_34 : decode cX4_untilAnyIsOut 34 = .ok (.aload_n 0, 1) := by decide +kernel
theorem dX4_untilAnyIsOut_35 : decode cX4_untilAnyIsOut 35 = .ok (.getfield 11, 3) := by decide +kernel
theorem dX4_untilAnyIsOut_38 : decode cX4_untilAnyIsOut 38 = .ok (.iload 7, 2) := by decide +kernel
theorem dX4_untilAnyIsOut_40 : decode cX4_untilAnyIsOut 40 = .ok (.aload_n 0, 1) := by decide +kernel
theorem dX4_untilAnyIsOut_41 : decode cX4_untilAnyIsOut 41 = .ok (.getfield 11, 3) := by decide +kernel
theorem dX4_untilAnyIsOut_44 : decode cX4_untilAnyIsOut 44 = .ok (.iload 7, 2) := by decide +kernel
theorem dX4_untilAnyIsOut_46 : decode cX4_untilAnyIsOut 46 = .ok (.iaload, 1) := by decide +kernel
theorem dX4_untilAnyIsOut_47 : decode cX4_untilAnyIsOut 47 = .ok (.iload_n 3, 1) := by decide +kernel
theorem dX4_untilAnyIsOut_48 : decode cX4_untilAnyIsOut 48 = .ok (.sipush 10000, 3) := by decide +kernel
theorem dX4_untilAnyIsOut_51 : decode cX4_untilAnyIsOut 51 = .ok (.imul, 1) := by decide +kernel
theorem dX4_untilAnyIsOut_52 : decode cX4_untilAnyIsOut 52 = .ok (.iload 5, 2) := by decide +kernel
theorem dX4_untilAnyIsOut_54 : decode cX4_untilAnyIsOut 54 = .ok (.iadd, 1) := by decide +kernel
theorem dX4_untilAnyIsOut_55 : decode cX4_untilAnyIsOut 55 = .ok (.invokestatic 118, 3) := by decide +kernel
theorem dX4_untilAnyIsOut_58 : decode cX4_untilAnyIsOut 58 = .ok (.iastore, 1) := by decide +kernel
theorem dX4_untilAnyIsOut_59 : decode cX4_untilAnyIsOut 59 = .ok (.aload_n 0, 1) := by decide +kernel
theorem dX4_untilAnyIsOut_60 : decode cX4_untilAnyIsOut 60 = .ok (.getfield 15, 3) := by decide +kernel
theorem dX4_untilAnyIsOut_63 : decode cX4_untilAnyIsOut 63 = .ok (.iload 7, 2) := by decide +kernel
theorem dX4_untilAnyIsOut_65 : decode cX4_untilAnyIsOut 65 = .ok (.aload_n 0, 1) := by decide +kernel
theorem dX4_untilAnyIsOut_66 : decode cX4_untilAnyIsOut 66 = .ok (.getfield 15, 3) := by decide +kernel
theorem dX4_untilAnyIsOut_69 : decode cX4_untilAnyIsOut 69 = .ok (.iload 7, 2) := by decide +kernel
theorem dX4_untilAnyIsOut_71 : decode cX4_untilAnyIsOut 71 = .ok (.iaload, 1) := by decide +kernel
theorem dX4_untilAnyIsOut_72 : decode cX4_untilAnyIsOut 72 = .ok (.iload 4, 2) := by decide +kernel
theorem dX4_untilAnyIsOut_74 : decode cX4_untilAnyIsOut 74 = .ok (.invokestatic 118, 3) := by decide +kernel
theorem dX4_untilAnyIsOut_77 : decode cX4_untilAnyIsOut 77 = .ok (.iastore, 1) := by decide +kernel
theorem dX4_untilAnyIsOut_78 : decode cX4_untilAnyIsOut 78 = .ok (.aload_n 0, 1) := by decide +kernel
theorem dX4_untilAnyIsOut_79 : decode cX4_untilAnyIsOut 79 = .ok (.iload_n 1, 1) := by decide +kernel
theorem dX4_untilAnyIsOut_80 : decode cX4_untilAnyIsOut 80 = .ok (.iload 7, 2) := by decide +kernel
theorem dX4_untilAnyIsOut_82 : decode cX4_untilAnyIsOut 82 = .ok (.invokevirtual 123, 3) := by decide +kernel
theorem dX4_untilAnyIsOut_85 : decode cX4_untilAnyIsOut 85 = .ok (.aload_n 0, 1) := by decide +kernel
theorem dX4_untilAnyIsOut_86 : decode cX4_untilAnyIsOut 86 = .ok (.iload_n 1, 1) := by decide +kernel
theorem dX4_untilAnyIsOut_87 : decode cX4_untilAnyIsOut 87 = .ok (.iload 6, 2) := by decide +kernel
theorem dX4_untilAnyIsOut_89 : decode cX4_untilAnyIsOut 89 = .ok (.invokevirtual 126, 3) := by decide +kernel
theorem dX4_untilAnyIsOut_92 : decode cX4_untilAnyIsOut 92 = .ok (.ifCond .eq 27, 3) := by decide +kernel
theorem dX4_untilAnyIsOut_95 : decode cX4_untilAnyIsOut 95 = .ok (.aload_n 0, 1) := by decide +kernel
theorem dX4_untilAnyIsOut_96 : decode cX4_untilAnyIsOut 96 = .ok (.iload_n 1, 1) := by decide +kernel
theorem dX4_untilAnyIsOut_97 : decode cX4_untilAnyIsOut 97 = .ok (.iconst 1, 1) := by decide +kernel
theorem dX4_untilAnyIsOut_98 : decode cX4_untilAnyIsOut 98 = .ok (.iadd, 1) := by decide +kernel
theorem dX4_untilAnyIsOut_99 : decode cX4_untilAnyIsOut 99 = .ok (.iload 7, 2) := by decide +kernel
theorem dX4_untilAnyIsOut_101 : decode cX4_untilAnyIsOut 101 = .ok (.invokevirtual 95, 3) := by decide +kernel
theorem dX4_untilAnyIsOut_104 : decode cX4_untilAnyIsOut 104 = .ok (.aload_n 0, 1) := by decide +kernel
theorem dX4_untilAnyIsOut_105 : decode cX4_untilAnyIsOut 105 = .ok (.iload_n 1, 1) := by decide +kernel
theorem dX4_untilAnyIsOut_106 : decode cX4_untilAnyIsOut 106 = .ok (.iconst 1, 1) := by decide +kernel
theorem dX4_untilAnyIsOut_107 : decode cX4_untilAnyIsOut 107 = .ok (.iadd, 1) := by decide +kernel
theorem dX4_untilAnyIsOut_108 : decode cX4_untilAnyIsOut 108 = .ok (.iconst 0, 1) := by decide +kernel
theorem dX4_untilAnyIsOut_109 : decode cX4_untilAnyIsOut 109 = .ok (.iload 7, 2) := by decide +kernel
theorem dX4_untilAnyIsOut_111 : decode cX4_untilAnyIsOut 111 = .ok (.iload_n 3, 1) := by decide +kernel
theorem dX4_untilAnyIsOut_112 : decode cX4_untilAnyIsOut 112 = .ok (.iload 4, 2) := by decide +kernel
theorem dX4_untilAnyIsOut_114 : decode cX4_untilAnyIsOut 114 = .ok (.iload 5, 2) := by decide +kernel
theorem dX4_untilAnyIsOut_116 : decode cX4_untilAnyIsOut 116 = .ok (.invokevirtual 99, 3) := by decide +kernel
theorem dX4_untilAnyIsOut_119 : decode cX4_untilAnyIsOut 119 = .ok (.return_, 1) := by decide +kernel
theorem dX4_momentsToEvent_0 : decode cX4_momentsToEvent 0 = .ok (.iload_n 1, 1) := by decide +kernel
theorem dX4_momentsToEvent_1 : decode cX4_momentsToEvent 1 = .ok (.iconst 4, 1) := by decide +kernel
theorem dX4_momentsToEvent_2 : decode cX4_momentsToEvent 2 = .ok (.imul, 1) := by decide +kernel
theorem dX4_momentsToEvent_3 : decode cX4_momentsToEvent 3 = .ok (.istore_n 2, 1) := by decide +kernel
theorem dX4_momentsToEvent_4 : decode cX4_momentsToEvent 4 = .ok (.iconst 0, 1) := by decide +kernel
theorem dX4_momentsToEvent_5 : decode cX4_momentsToEvent 5 = .ok (.istore_n 3, 1) := by decide +kernel
theorem dX4_momentsToEvent_6 : decode cX4_momentsToEvent 6 = .ok (.iconst 0, 1) := by decide +kernel
theorem dX4_momentsToEvent_7 : decode cX4_momentsToEvent 7 = .ok (.istore 4, 2) := by decide +kernel
theorem dX4_momentsToEvent_9 : decode cX4_momentsToEvent 9 = .ok (.iload 4, 2) := by decide +kernel
theorem dX4_momentsToEvent_11 : decode cX4_momentsToEvent 11 = .ok (.iconst 4, 1) := by decide +kernel
theorem dX4_momentsToEvent_12 : decode cX4_momentsToEvent 12 = .ok (.if_icmp .ge 87, 3) := by decide +kernel
theorem dX4_momentsToEvent_15 : decode cX4_momentsToEvent 15 = .ok (.aload_n 0, 1) := by decide +kernel
theorem dX4_momentsToEvent_16 : decode cX4_momentsToEvent 16 = .ok (.getfield 24, 3) := by decide +kernel
theorem dX4_momentsToEvent_19 : decode cX4_momentsToEvent 19 = .ok (.iload_n 2, 1) := by decide +kernel
theorem dX4_momentsToEvent_20 : decode cX4_momentsToEvent 20 = .ok (.iload 4, 2) := by decide +kernel
theorem dX4_momentsToEvent_22 : decode cX4_momentsToEvent 22 = .ok (.iadd, 1) := by decide +kernel
theorem dX4_momentsToEvent_23 : decode cX4_momentsToEvent 23 = .ok (.iaload, 1) := by decide +kernel
theorem dX4_momentsToEvent_24 : decode cX4_momentsToEvent 24 = .ok (.ifCond .ne 7, 3) := by decide +kernel
theorem dX4_momentsToEvent_27 : decode cX4_momentsToEvent 27 = .ok (.iconst 0, 1) := by decide +kernel
theorem dX4_momentsToEvent_28 : decode cX4_momentsToEvent 28 = .ok (.goto 22, 3) := by decide +kernel
theorem dX4_momentsToEvent_31 : decode cX4_momentsToEvent 31 = .ok (.aload_n 0, 1) := by decide +kernel
theorem dX4_momentsToEvent_32 : decode cX4_momentsToEvent 32 = .ok (.getfield 30, 3) := by decide +kernel
theorem dX4_momentsToEvent_35 : decode cX4_momentsToEvent 35 = .ok (.iload 4, 2) := by decide +kernel
theorem dX4_momentsToEvent_37 : decode cX4_momentsToEvent 37 = .ok (.iconst 3, 1) := by decide +kernel
theorem dX4_momentsToEvent_38 : decode cX4_momentsToEvent 38 = .ok (.imul, 1) := by decide +kernel
theorem dX4_momentsToEvent_39 : decode cX4_momentsToEvent 39 = .ok (.aload_n 0, 1) := by decide +kernel
theorem dX4_momentsToEvent_40 : decode cX4_momentsToEvent 40 = .ok (.getfield 24, 3) := by decide +kernel
theorem dX4_momentsToEvent_43 : decode cX4_momentsToEvent 43 = .ok (.iload_n 2, 1) := by decide +kernel
theorem dX4_momentsToEvent_44 : decode cX4_momentsToEvent 44 = .ok (.iload 4, 2) := by decide +kernel
theorem dX4_momentsToEvent_46 : decode cX4_momentsToEvent 46 = .ok (.iadd, 1) := by decide +kernel
theorem dX4_momentsToEvent_47 : decode cX4_momentsToEvent 47 = .ok (.iaload, 1) := by decide +kernel
theorem dX4_momentsToEvent_48 : decode cX4_momentsToEvent 48 = .ok (.iadd, 1) := by decide +kernel
theorem dX4_momentsToEvent_49 : decode cX4_momentsToEvent 49 = .ok (.iaload, 1) := by decide +kernel
theorem dX4_momentsToEvent_50 : decode cX4_momentsToEvent 50 = .ok (.istore 5, 2) := by decide +kernel
theorem dX4_momentsToEvent_52 : decode cX4_momentsToEvent 52 = .ok (.iload 5, 2) := by decide +kernel
theorem dX4_momentsToEvent_54 : decode cX4_momentsToEvent 54 = .ok (.ifCond .le 39, 3) := by decide +kernel
theorem dX4_momentsToEvent_57 : decode cX4_momentsToEvent 57 = .ok (.aload_n 0, 1) := by decide +kernel
theorem dX4_momentsToEvent_58 : decode cX4_momentsToEvent 58 = .ok (.getfield 21, 3) := by decide +kernel
theorem dX4_momentsToEvent_61 : decode cX4_momentsToEvent 61 = .ok (.iload_n 2, 1) := by decide +kernel
theorem dX4_momentsToEvent_62 : decode cX4_momentsToEvent 62 = .ok (.iload 4, 2) := by decide +kernel
theorem dX4_momentsToEvent_64 : decode cX4_momentsToEvent 64 = .ok (.iadd, 1) := by decide +kernel
theorem dX4_momentsToEvent_65 : decode cX4_momentsToEvent 65 = .ok (.iaload, 1) := by decide +kernel
theorem dX4_momentsToEvent_66 : decode cX4_momentsToEvent 66 = .ok (.iload 5, 2) := by decide +kernel
theorem dX4_momentsToEvent_68 : decode cX4_momentsToEvent 68 = .ok (.iadd, 1) := by decide +kernel
theorem dX4_momentsToEvent_69 : decode cX4_momentsToEvent 69 = .ok (.iconst 1, 1) := by decide +kernel
theorem dX4_momentsToEvent_70 : decode cX4_momentsToEvent 70 = .ok (.isub, 1) := by decide +kernel
theorem dX4_momentsToEvent_71 : decode cX4_momentsToEvent 71 = .ok (.iload 5, 2) := by decide +kernel
theorem dX4_momentsToEvent_73 : decode cX4_momentsToEvent 73 = .ok (.idiv, 1) := by decide +kernel
theorem dX4_momentsToEvent_74 : decode cX4_momentsToEvent 74 = .ok (.istore 6, 2) := by decide +kernel
theorem dX4_momentsToEvent_76 : decode cX4_momentsToEvent 76 = .ok (.iload_n 3, 1) := by decide +kernel
theorem dX4_momentsToEvent_77 : decode cX4_momentsToEvent 77 = .ok (.ifCond .eq 9, 3) := by decide +kernel
theorem dX4_momentsToEvent_80 : decode cX4_momentsToEvent 80 = .ok (.iload 6, 2) := by decide +kernel
theorem dX4_momentsToEvent_82 : decode cX4_momentsToEvent 82 = .ok (.iload_n 3, 1) := by decide +kernel
theorem dX4_momentsToEvent_83 : decode cX4_momentsToEvent 83 = .ok (.if_icmp .ge 8, 3) := by decide +kernel
theorem dX4_momentsToEvent_86 : decode cX4_momentsToEvent 86 = .ok (.iload 6, 2) := by decide +kernel
theorem dX4_momentsToEvent_88 : decode cX4_momentsToEvent 88 = .ok (.goto 4, 3) := by decide +kernel
theorem dX4_momentsToEvent_91 : decode cX4_momentsToEvent 91 = .ok (.iload_n 3, 1) := by decide +kernel
theorem dX4_momentsToEvent_92 : decode cX4_momentsToEvent 92 = .ok (.istore_n 3, 1) := by decide +kernel
theorem dX4_momentsToEvent_93 : decode cX4_momentsToEvent 93 = .ok (.iinc 4 1, 3) := by decide +kernel
theorem dX4_momentsToEvent_96 : decode cX4_momentsToEvent 96 = .ok (.goto (-87), 3) := by decide +kernel
theorem dX4_momentsToEvent_99 : decode cX4_momentsToEvent 99 = .ok (.iload_n 3, 1) := by decide +kernel
theorem dX4_momentsToEvent_100 : decode cX4_momentsToEvent 100 = .ok (.ireturn, 1) := by decide +kernel
theorem dX4_burnDown_0 : decode cX4_burnDown 0 = .ok (.iload_n 1, 1) := by decide +kernel
theorem dX4_burnDown_1 : decode cX4_burnDown 1 = .ok (.iconst 4, 1) := by decide +kernel
theorem dX4_burnDown_2 : decode cX4_burnDown 2 = .ok (.imul, 1) := by decide +kernel
theorem dX4_burnDown_3 : decode cX4_burnDown 3 = .ok (.istore_n 3, 1) := by decide +kernel
theorem dX4_burnDown_4 : decode cX4_burnDown 4 = .ok (.iconst 0, 1) := by decide +kernel
theorem dX4_burnDown_5 : decode cX4_burnDown 5 = .ok (.istore 4, 2) := by decide +kernel
theorem dX4_burnDown_7 : decode cX4_burnDown 7 = .ok (.iconst 0, 1) := by decide +kernel
theorem dX4_burnDown_8 : decode cX4_burnDown 8 = .ok (.istore 5, 2) := by decide +kernel
theorem dX4_burnDown_10 : decode cX4_burnDown 10 = .ok (.iload 5, 2) := by decide +kernel
theorem dX4_burnDown_12 : decode cX4_burnDown 12 = .ok (.iconst 4, 1) := by decide +kernel
theorem dX4_burnDown_13 : decode cX4_burnDown 13 = .ok (.if_icmp .ge 115, 3) := by decide +kernel
theorem dX4_burnDown_16 : decode cX4_burnDown 16 = .ok (.aload_n 0, 1) := by decide +kernel
theorem dX4_burnDown_17 : decode cX4_burnDown 17 = .ok (.getfield 24, 3) := by decide +kernel
theorem dX4_burnDown_20 : decode cX4_burnDown 20 = .ok (.iload_n 3, 1) := by decide +kernel
theorem dX4_burnDown_21 : decode cX4_burnDown 21 = .ok (.iload 5, 2) := by decide +kernel
theorem dX4_burnDown_23 : decode cX4_burnDown 23 = .ok (.iadd, 1) := by decide +kernel
theorem dX4_burnDown_24 : decode cX4_burnDown 24 = .ok (.iaload, 1) := by decide +kernel
theorem dX4_burnDown_25 : decode cX4_burnDown 25 = .ok (.istore 6, 2) := by decide +kernel
theorem dX4_burnDown_27 : decode cX4_burnDown 27 = .ok (.iload 6, 2) := by decide +kernel
theorem dX4_burnDown_29 : decode cX4_burnDown 29 = .ok (.ifCond .ne 15, 3) := by decide +kernel
theorem dX4_burnDown_32 : decode cX4_burnDown 32 = .ok (.aload_n 0, 1) := by decide +kernel
theorem dX4_burnDown_33 : decode cX4_burnDown 33 = .ok (.getfield 21, 3) := by decide +kernel
theorem dX4_burnDown_36 : decode cX4_burnDown 36 = .ok (.iload_n 3, 1) := by decide +kernel
theorem dX4_burnDown_37 : decode cX4_burnDown 37 = .ok (.iload 5, 2) := by decide +kernel
theorem dX4_burnDown_39 : decode cX4_burnDown 39 = .ok (.iadd, 1) := by decide +kernel
theorem dX4_burnDown_40 : decode cX4_burnDown 40 = .ok (.iaload, 1) := by decide +kernel
theorem dX4_burnDown_41 : decode cX4_burnDown 41 = .ok (.goto 27, 3) := by decide +kernel
theorem dX4_burnDown_44 : decode cX4_burnDown 44 = .ok (.aload_n 0, 1) := by decide +kernel
theorem dX4_burnDown_45 : decode cX4_burnDown 45 = .ok (.getfield 21, 3) := by decide +kernel
theorem dX4_burnDown_48 : decode cX4_burnDown 48 = .ok (.iload_n 3, 1) := by decide +kernel
theorem dX4_burnDown_49 : decode cX4_burnDown 49 = .ok (.iload 5, 2) := by decide +kernel
theorem dX4_burnDown_51 : decode cX4_burnDown 51 = .ok (.iadd, 1) := by decide +kernel
theorem dX4_burnDown_52 : decode cX4_burnDown 52 = .ok (.iaload, 1) := by decide +kernel
theorem dX4_burnDown_53 : decode cX4_burnDown 53 = .ok (.iload_n 2, 1) := by decide +kernel
theorem dX4_burnDown_54 : decode cX4_burnDown 54 = .ok (.aload_n 0, 1) := by decide +kernel
theorem dX4_burnDown_55 : decode cX4_burnDown 55 = .ok (.getfield 30, 3) := by decide +kernel
theorem dX4_burnDown_58 : decode cX4_burnDown 58 = .ok (.iload 5, 2) := by decide +kernel
theorem dX4_burnDown_60 : decode cX4_burnDown 60 = .ok (.iconst 3, 1) := by decide +kernel
theorem dX4_burnDown_61 : decode cX4_burnDown 61 = .ok (.imul, 1) := by decide +kernel
theorem dX4_burnDown_62 : decode cX4_burnDown 62 = .ok (.iload 6, 2) := by decide +kernel
theorem dX4_burnDown_64 : decode cX4_burnDown 64 = .ok (.iadd, 1) := by decide +kernel
theorem dX4_burnDown_65 : decode cX4_burnDown 65 = .ok (.iaload, 1) := by decide +kernel
theorem dX4_burnDown_66 : decode cX4_burnDown 66 = .ok (.imul, 1) := by decide +kernel
theorem dX4_burnDown_67 : decode cX4_burnDown 67 = .ok (.isub, 1) := by decide +kernel
theorem dX4_burnDown_68 : decode cX4_burnDown 68 = .ok (.istore 7, 2) := by decide +kernel
theorem dX4_burnDown_70 : decode cX4_burnDown 70 = .ok (.aload_n 0, 1) := by decide +kernel
theorem dX4_burnDown_71 : decode cX4_burnDown 71 = .ok (.getfield 21, 3) := by decide +kernel
theorem dX4_burnDown_74 : decode cX4_burnDown 74 = .ok (.iload_n 3, 1) := by decide +kernel
theorem dX4_burnDown_75 : decode cX4_burnDown 75 = .ok (.iconst 4, 1) := by decide +kernel
theorem dX4_burnDown_76 : decode cX4_burnDown 76 = .ok (.iadd, 1) := by decide +kernel
theorem dX4_burnDown_77 : decode cX4_burnDown 77 = .ok (.iload 5, 2) := by decide +kernel
theorem dX4_burnDown_79 : decode cX4_burnDown 79 = .ok (.iadd, 1) := by decide +kernel
theorem dX4_burnDown_80 : decode cX4_burnDown 80 = .ok (.iload 7, 2) := by decide +kernel
theorem dX4_burnDown_82 : decode cX4_burnDown 82 = .ok (.ifCond .le 8, 3) := by decide +kernel
theorem dX4_burnDown_85 : decode cX4_burnDown 85 = .ok (.iload 7, 2) := by decide +kernel
theorem dX4_burnDown_87 : decode cX4_burnDown 87 = .ok (.goto 4, 3) := by decide +kernel
theorem dX4_burnDown_90 : decode cX4_burnDown 90 = .ok (.iconst 0, 1) := by decide +kernel
theorem dX4_burnDown_91 : decode cX4_burnDown 91 = .ok (.iastore, 1) := by decide +kernel
theorem dX4_burnDown_92 : decode cX4_burnDown 92 = .ok (.aload_n 0, 1) := by decide +kernel
theorem dX4_burnDown_93 : decode cX4_burnDown 93 = .ok (.getfield 24, 3) := by decide +kernel
theorem dX4_burnDown_96 : decode cX4_burnDown 96 = .ok (.iload_n 3, 1) := by decide +kernel
theorem dX4_burnDown_97 : decode cX4_burnDown 97 = .ok (.iconst 4, 1) := by decide +kernel
theorem dX4_burnDown_98 : decode cX4_burnDown 98 = .ok (.iadd, 1) := by decide +kernel
theorem dX4_burnDown_99 : decode cX4_burnDown 99 = .ok (.iload 5, 2) := by decide +kernel
theorem dX4_burnDown_101 : decode cX4_burnDown 101 = .ok (.iadd, 1) := by decide +kernel
theorem dX4_burnDown_102 : decode cX4_burnDown 102 = .ok (.iload 7, 2) := by decide +kernel
theorem dX4_burnDown_104 : decode cX4_burnDown 104 = .ok (.ifCond .le 8, 3) := by decide +kernel
theorem dX4_burnDown_107 : decode cX4_burnDown 107 = .ok (.iload 6, 2) := by decide +kernel
theorem dX4_burnDown_109 : decode cX4_burnDown 109 = .ok (.goto 4, 3) := by decide +kernel
theorem dX4_burnDown_112 : decode cX4_burnDown 112 = .ok (.iconst 0, 1) := by decide +kernel
theorem dX4_burnDown_113 : decode cX4_burnDown 113 = .ok (.iastore, 1) := by decide +kernel
theorem dX4_burnDown_114 : decode cX4_burnDown 114 = .ok (.iload 7, 2) := by decide +kernel
theorem dX4_burnDown_116 : decode cX4_burnDown 116 = .ok (.ifCond .le 6, 3) := by decide +kernel
theorem dX4_burnDown_119 : decode cX4_burnDown 119 = .ok (.iconst 1, 1) := by decide +kernel
theorem dX4_burnDown_120 : decode cX4_burnDown 120 = .ok (.istore 4, 2) := by decide +kernel
theorem dX4_burnDown_122 : decode cX4_burnDown 122 = .ok (.iinc 5 1, 3) := by decide +kernel
theorem dX4_burnDown_125 : decode cX4_burnDown 125 = .ok (.goto (-115), 3) := by decide +kernel
theorem dX4_burnDown_128 : decode cX4_burnDown 128 = .ok (.iload 4, 2) := by decide +kernel
theorem dX4_burnDown_130 : decode cX4_burnDown 130 = .ok (.ireturn, 1) := by decide +kernel
theorem dX4_noteApart_0 : decode cX4_noteApart 0 = .ok (.aload_n 0, 1) := by decide +kernel
theorem dX4_noteApart_1 : decode cX4_noteApart 1 = .ok (.getfield 33, 3) := by decide +kernel
theorem dX4_noteApart_4 : decode cX4_noteApart 4 = .ok (.iload_n 1, 1) := by decide +kernel
theorem dX4_noteApart_5 : decode cX4_noteApart 5 = .ok (.iload_n 2, 1) := by decide +kernel
theorem dX4_noteApart_6 : decode cX4_noteApart 6 = .ok (.iastore, 1) := by decide +kernel
theorem dX4_noteApart_7 : decode cX4_noteApart 7 = .ok (.aload_n 0, 1) := by decide +kernel
theorem dX4_noteApart_8 : decode cX4_noteApart 8 = .ok (.getfield 18, 3) := by decide +kernel
theorem dX4_noteApart_11 : decode cX4_noteApart 11 = .ok (.iload_n 2, 1) := by decide +kernel
theorem dX4_noteApart_12 : decode cX4_noteApart 12 = .ok (.iconst 1, 1) := by decide +kernel
theorem dX4_noteApart_13 : decode cX4_noteApart 13 = .ok (.iastore, 1) := by decide +kernel
theorem dX4_noteApart_14 : decode cX4_noteApart 14 = .ok (.iconst 0, 1) := by decide +kernel
theorem dX4_noteApart_15 : decode cX4_noteApart 15 = .ok (.istore_n 3, 1) := by decide +kernel
theorem dX4_noteApart_16 : decode cX4_noteApart 16 = .ok (.iload_n 3, 1) := by decide +kernel
theorem dX4_noteApart_17 : decode cX4_noteApart 17 = .ok (.iload_n 1, 1) := by decide +kernel
theorem dX4_noteApart_18 : decode cX4_noteApart 18 = .ok (.if_icmp .ge 23, 3) := by decide +kernel
theorem dX4_noteApart_21 : decode cX4_noteApart 21 = .ok (.aload_n 0, 1) := by decide +kernel
theorem dX4_noteApart_22 : decode cX4_noteApart 22 = .ok (.getfield 18, 3) := by decide +kernel
theorem dX4_noteApart_25 : decode cX4_noteApart 25 = .ok (.iload_n 2, 1) := by decide +kernel
theorem dX4_noteApart_26 : decode cX4_noteApart 26 = .ok (.aload_n 0, 1) := by decide +kernel
theorem dX4_noteApart_27 : decode cX4_noteApart 27 = .ok (.getfield 33, 3) := by decide +kernel
theorem dX4_noteApart_30 : decode cX4_noteApart 30 = .ok (.iload_n 3, 1) := by decide +kernel
theorem dX4_noteApart_31 : decode cX4_noteApart 31 = .ok (.iaload, 1) := by decide +kernel
theorem dX4_noteApart_32 : decode cX4_noteApart 32 = .ok (.isub, 1) := by decide +kernel
theorem dX4_noteApart_33 : decode cX4_noteApart 33 = .ok (.iconst 1, 1) := by decide +kernel
theorem dX4_noteApart_34 : decode cX4_noteApart 34 = .ok (.iastore, 1) := by decide +kernel
theorem dX4_noteApart_35 : decode cX4_noteApart 35 = .ok (.iinc 3 1, 3) := by decide +kernel
theorem dX4_noteApart_38 : decode cX4_noteApart 38 = .ok (.goto (-22), 3) := by decide +kernel
theorem dX4_noteApart_41 : decode cX4_noteApart 41 = .ok (.return_, 1) := by decide +kernel
theorem dX4_askPrices_0 : decode cX4_askPrices 0 = .ok (.aload_n 0, 1) := by decide +kernel
theorem dX4_askPrices_1 : decode cX4_askPrices 1 = .ok (.getfield 43, 3) := by decide +kernel
theorem dX4_askPrices_4 : decode cX4_askPrices 4 = .ok (.ifCond .ne 4, 3) := by decide +kernel
theorem dX4_askPrices_7 : decode cX4_askPrices 7 = .ok (.return_, 1) := by decide +kernel
theorem dX4_askPrices_8 : decode cX4_askPrices 8 = .ok (.iconst 0, 1) := by decide +kernel
theorem dX4_askPrices_9 : decode cX4_askPrices 9 = .ok (.istore_n 3, 1) := by decide +kernel
theorem dX4_askPrices_10 : decode cX4_askPrices 10 = .ok (.iload_n 3, 1) := by decide +kernel
theorem dX4_askPrices_11 : decode cX4_askPrices 11 = .ok (.aload_n 0, 1) := by decide +kernel
theorem dX4_askPrices_12 : decode cX4_askPrices 12 = .ok (.getfield 47, 3) := by decide +kernel
theorem dX4_askPrices_15 : decode cX4_askPrices 15 = .ok (.getfield 91, 3) := by decide +kernel
theorem dX4_askPrices_18 : decode cX4_askPrices 18 = .ok (.if_icmp .ge 143, 3) := by decide +kernel
theorem dX4_askPrices_21 : decode cX4_askPrices 21 = .ok (.iload_n 3, 1) := by decide +kernel
theorem dX4_askPrices_22 : decode cX4_askPrices 22 = .ok (.iconst 4, 1) := by decide +kernel
theorem dX4_askPrices_23 : decode cX4_askPrices 23 = .ok (.if_icmp .ge 138, 3) := by decide +kernel
theorem dX4_askPrices_26 : decode cX4_askPrices 26 = .ok (.iload_n 1, 1) := by decide +kernel
theorem dX4_askPrices_27 : decode cX4_askPrices 27 = .ok (.iconst 4, 1) := by decide +kernel
theorem dX4_askPrices_28 : decode cX4_askPrices 28 = .ok (.imul, 1) := by decide +kernel
theorem dX4_askPrices_29 : decode cX4_askPrices 29 = .ok (.iload_n 3, 1) := by decide +kernel
theorem dX4_askPrices_30 : decode cX4_askPrices 30 = .ok (.iadd, 1) := by decide +kernel
theorem dX4_askPrices_31 : decode cX4_askPrices 31 = .ok (.istore 4, 2) := by decide +kernel
theorem dX4_askPrices_33 : decode cX4_askPrices 33 = .ok (.aload_n 0, 1) := by decide +kernel
theorem dX4_askPrices_34 : decode cX4_askPrices 34 = .ok (.getfield 24, 3) := by decide +kernel
theorem dX4_askPrices_37 : decode cX4_askPrices 37 = .ok (.iload 4, 2) := by decide +kernel
theorem dX4_askPrices_39 : decode cX4_askPrices 39 = .ok (.iaload, 1) := by decide +kernel
theorem dX4_askPrices_40 : decode cX4_askPrices 40 = .ok (.istore 5, 2) := by decide +kernel
theorem dX4_askPrices_42 : decode cX4_askPrices 42 = .ok (.iload 5, 2) := by decide +kernel
theorem dX4_askPrices_44 : decode cX4_askPrices 44 = .ok (.iconst 2, 1) := by decide +kernel
theorem dX4_askPrices_45 : decode cX4_askPrices 45 = .ok (.if_icmp .ge 110, 3) := by decide +kernel
theorem dX4_askPrices_48 : decode cX4_askPrices 48 = .ok (.aload_n 0, 1) := by decide +kernel
theorem dX4_askPrices_49 : decode cX4_askPrices 49 = .ok (.getfield 21, 3) := by decide +kernel
theorem dX4_askPrices_52 : decode cX4_askPrices 52 = .ok (.iload 4, 2) := by decide +kernel
theorem dX4_askPrices_54 : decode cX4_askPrices 54 = .ok (.iaload, 1) := by decide +kernel
theorem dX4_askPrices_55 : decode cX4_askPrices 55 = .ok (.ifCond .le 100, 3) := by decide +kernel
theorem dX4_askPrices_58 : decode cX4_askPrices 58 = .ok (.sipush 999, 3) := by decide +kernel
theorem dX4_askPrices_61 : decode cX4_askPrices 61 = .ok (.aload_n 0, 1) := by decide +kernel
theorem dX4_askPrices_62 : decode cX4_askPrices 62 = .ok (.getfield 47, 3) := by decide +kernel
theorem dX4_askPrices_65 : decode cX4_askPrices 65 = .ok (.getfield 130, 3) := by decide +kernel
theorem dX4_askPrices_68 : decode cX4_askPrices 68 = .ok (.iload_n 3, 1) := by decide +kernel
theorem dX4_askPrices_69 : decode cX4_askPrices 69 = .ok (.iaload, 1) := by decide +kernel
theorem dX4_askPrices_70 : decode cX4_askPrices 70 = .ok (.aload_n 0, 1) := by decide +kernel
theorem dX4_askPrices_71 : decode cX4_askPrices 71 = .ok (.getfield 47, 3) := by decide +kernel
theorem dX4_askPrices_74 : decode cX4_askPrices 74 = .ok (.getfield 94, 3) := by decide +kernel
theorem dX4_askPrices_77 : decode cX4_askPrices 77 = .ok (.iload_n 3, 1) := by decide +kernel
theorem dX4_askPrices_78 : decode cX4_askPrices 78 = .ok (.iaload, 1) := by decide +kernel
theorem dX4_askPrices_79 : decode cX4_askPrices 79 = .ok (.iadd, 1) := by decide +kernel
theorem dX4_askPrices_80 : decode cX4_askPrices 80 = .ok (.aload_n 0, 1) := by decide +kernel
theorem dX4_askPrices_81 : decode cX4_askPrices 81 = .ok (.getfield 21, 3) := by decide +kernel
theorem dX4_askPrices_84 : decode cX4_askPrices 84 = .ok (.iload 4, 2) := by decide +kernel
theorem dX4_askPrices_86 : decode cX4_askPrices 86 = .ok (.iaload, 1) := by decide +kernel
theorem dX4_askPrices_87 : decode cX4_askPrices 87 = .ok (.isub, 1) := by decide +kernel
theorem dX4_askPrices_88 : decode cX4_askPrices 88 = .ok (.invokestatic 118, 3) := by decide +kernel
theorem dX4_askPrices_91 : decode cX4_askPrices 91 = .ok (.istore 6, 2) := by decide +kernel
theorem dX4_askPrices_93 : decode cX4_askPrices 93 = .ok (.aload_n 0, 1) := by decide +kernel
theorem dX4_askPrices_94 : decode cX4_askPrices 94 = .ok (.getfield 51, 3) := by decide +kernel
theorem dX4_askPrices_97 : decode cX4_askPrices 97 = .ok (.aload_n 0, 1) := by decide +kernel
theorem dX4_askPrices_98 : decode cX4_askPrices 98 = .ok (.getfield 21, 3) := by decide +kernel
theorem dX4_askPrices_101 : decode cX4_askPrices 101 = .ok (.iload 4, 2) := by decide +kernel
theorem dX4_askPrices_103 : decode cX4_askPrices 103 = .ok (.iaload, 1) := by decide +kernel
theorem dX4_askPrices_104 : decode cX4_askPrices 104 = .ok (.aload_n 0, 1) := by decide +kernel
theorem dX4_askPrices_105 : decode cX4_askPrices 105 = .ok (.getfield 47, 3) := by decide +kernel
theorem dX4_askPrices_108 : decode cX4_askPrices 108 = .ok (.getfield 60, 3) := by decide +kernel
theorem dX4_askPrices_111 : decode cX4_askPrices 111 = .ok (.iload 5, 2) := by decide +kernel
theorem dX4_askPrices_113 : decode cX4_askPrices 113 = .ok (.iload 6, 2) := by decide +kernel
theorem dX4_askPrices_115 : decode cX4_askPrices 115 = .ok (.iload_n 3, 1) := by decide +kernel
theorem dX4_askPrices_116 : decode cX4_askPrices 116 = .ok (.iload_n 2, 1) := by decide +kernel
theorem dX4_askPrices_117 : decode cX4_askPrices 117 = .ok (.invokevirtual 133, 3) := by decide +kernel
theorem dX4_askPrices_120 : decode cX4_askPrices 120 = .ok (.aload_n 0, 1) := by decide +kernel
theorem dX4_askPrices_121 : decode cX4_askPrices 121 = .ok (.getfield 27, 3) := by decide +kernel
theorem dX4_askPrices_124 : decode cX4_askPrices 124 = .ok (.iload 4, 2) := by decide +kernel
theorem dX4_askPrices_126 : decode cX4_askPrices 126 = .ok (.iconst 2, 1) := by decide +kernel
theorem dX4_askPrices_127 : decode cX4_askPrices 127 = .ok (.imul, 1) := by decide +kernel
theorem dX4_askPrices_128 : decode cX4_askPrices 128 = .ok (.iload 5, 2) := by decide +kernel
theorem dX4_askPrices_130 : decode cX4_askPrices 130 = .ok (.iadd, 1) := by decide +kernel
theorem dX4_askPrices_131 : decode cX4_askPrices 131 = .ok (.aload_n 0, 1) := by decide +kernel
theorem dX4_askPrices_132 : decode cX4_askPrices 132 = .ok (.getfield 51, 3) := by decide +kernel
theorem dX4_askPrices_135 : decode cX4_askPrices 135 = .ok (.aload_n 0, 1) := by decide +kernel
theorem dX4_askPrices_136 : decode cX4_askPrices 136 = .ok (.getfield 47, 3) := by decide +kernel
theorem dX4_askPrices_139 : decode cX4_askPrices 139 = .ok (.getfield 138, 3) := by decide +kernel
theorem dX4_askPrices_142 : decode cX4_askPrices 142 = .ok (.iconst 0, 1) := by decide +kernel
theorem dX4_askPrices_143 : decode cX4_askPrices 143 = .ok (.bipush 99, 2) := by decide +kernel
theorem dX4_askPrices_145 : decode cX4_askPrices 145 = .ok (.invokevirtual 141, 3) := by decide +kernel
theorem dX4_askPrices_148 : decode cX4_askPrices 148 = .ok (.iastore, 1) := by decide +kernel
theorem dX4_askPrices_149 : decode cX4_askPrices 149 = .ok (.iinc 5 1, 3) := by decide +kernel
theorem dX4_askPrices_152 : decode cX4_askPrices 152 = .ok (.goto (-110), 3) := by decide +kernel
theorem dX4_askPrices_155 : decode cX4_askPrices 155 = .ok (.iinc 3 1, 3) := by decide +kernel
theorem dX4_askPrices_158 : decode cX4_askPrices 158 = .ok (.goto (-148), 3) := by decide +kernel
theorem dX4_askPrices_161 : decode cX4_askPrices 161 = .ok (.return_, 1) := by decide +kernel
theorem dX5_init_0 : decode cX5_init 0 = .ok (.aload_n 0, 1) := by decide +kernel
theorem dX5_init_1 : decode cX5_init 1 = .ok (.invokespecial 3, 3) := by decide +kernel
theorem dX5_init_4 : decode cX5_init 4 = .ok (.aload_n 0, 1) := by decide +kernel
theorem dX5_init_5 : decode cX5_init 5 = .ok (.sipush 160, 3) := by decide +kernel
theorem dX5_init_8 : decode cX5_init 8 = .ok (.newarray .int, 2) := by decide +kernel
theorem dX5_init_10 : decode cX5_init 10 = .ok (.putfield 9, 3) := by decide +kernel
theorem dX5_init_13 : decode cX5_init 13 = .ok (.aload_n 0, 1) := by decide +kernel
theorem dX5_init_14 : decode cX5_init 14 = .ok (.bipush 6, 2) := by decide +kernel
theorem dX5_init_16 : decode cX5_init 16 = .ok (.sipush 160, 3) := by decide +kernel
theorem dX5_init_19 : decode cX5_init 19 = .ok (.multianewarray 15 2, 4) := by decide +kernel
theorem dX5_init_23 : decode cX5_init 23 = .ok (.putfield 17, 3) := by decide +kernel
theorem dX5_init_26 : decode cX5_init 26 = .ok (.aload_n 0, 1) := by decide +kernel
theorem dX5_init_27 : decode cX5_init 27 = .ok (.bipush 6, 2) := by decide +kernel
theorem dX5_init_29 : decode cX5_init 29 = .ok (.iconst 4, 1) := by decide +kernel
theorem dX5_init_30 : decode cX5_init 30 = .ok (.multianewarray 15 2, 4) := by decide +kernel
theorem dX5_init_34 : decode cX5_init 34 = .ok (.putfield 20, 3) := by decide +kernel
theorem dX5_init_37 : decode cX5_init 37 = .ok (.aload_n 0, 1) := by decide +kernel
theorem dX5_init_38 : decode cX5_init 38 = .ok (.bipush 6, 2) := by decide +kernel
theorem dX5_init_40 : decode cX5_init 40 = .ok (.newarray .int, 2) := by decide +kernel
theorem dX5_init_42 : decode cX5_init 42 = .ok (.putfield 25, 3) := by decide +kernel
theorem dX5_init_45 : decode cX5_init 45 = .ok (.aload_n 0, 1) := by decide +kernel
theorem dX5_init_46 : decode cX5_init 46 = .ok (.sipush 160, 3) := by decide +kernel
theorem dX5_init_49 : decode cX5_init 49 = .ok (.newarray .int, 2) := by decide +kernel
theorem dX5_init_51 : decode cX5_init 51 = .ok (.putfield 28, 3) := by decide +kernel
theorem dX5_init_54 : decode cX5_init 54 = .ok (.aload_n 0, 1) := by decide +kernel
theorem dX5_init_55 : decode cX5_init 55 = .ok (.new 31, 3) := by decide +kernel
theorem dX5_init_58 : decode cX5_init 58 = .ok (.dup, 1) := by decide +kernel
theorem dX5_init_59 : decode cX5_init 59 = .ok (.aload_n 0, 1) := by decide +kernel
theorem dX5_init_60 : decode cX5_init 60 = .ok (.getfield 9, 3) := by decide +kernel
theorem dX5_init_63 : decode cX5_init 63 = .ok (.invokespecial 33, 3) := by decide +kernel
theorem dX5_init_66 : decode cX5_init 66 = .ok (.putfield 36, 3) := by decide +kernel
theorem dX5_init_69 : decode cX5_init 69 = .ok (.aload_n 0, 1) := by decide +kernel
theorem dX5_init_70 : decode cX5_init 70 = .ok (.iconst 0, 1) := by decide +kernel
theorem dX5_init_71 : decode cX5_init 71 = .ok (.putfield 40, 3) := by decide +kernel
theorem dX5_init_74 : decode cX5_init 74 = .ok (.aload_n 0, 1) := by decide +kernel
theorem dX5_init_75 : decode cX5_init 75 = .ok (.iconst 1, 1) := by decide +kernel
theorem dX5_init_76 : decode cX5_init 76 = .ok (.putfield 44, 3) := by decide +kernel
theorem dX5_init_79 : decode cX5_init 79 = .ok (.aload_n 0, 1) := by decide +kernel
theorem dX5_init_80 : decode cX5_init 80 = .ok (.getfield 17, 3) := by decide +kernel
theorem dX5_init_83 : decode cX5_init 83 = .ok (.iconst 0, 1) := by decide +kernel
theorem dX5_init_84 : decode cX5_init 84 = .ok (.aaload, 1) := by decide +kernel
theorem dX5_init_85 : decode cX5_init 85 = .ok (.iconst 0, 1) := by decide +kernel
theorem dX5_init_86 : decode cX5_init 86 = .ok (.iconst 1, 1) := by decide +kernel
theorem dX5_init_87 : decode cX5_init 87 = .ok (.iastore, 1) := by decide +kernel
theorem dX5_init_88 : decode cX5_init 88 = .ok (.aload_n 0, 1) := by decide +kernel
theorem dX5_init_89 : decode cX5_init 89 = .ok (.getfield 17, 3) := by decide +kernel
theorem dX5_init_92 : decode cX5_init 92 = .ok (.iconst 0, 1) := by decide +kernel
theorem dX5_init_93 : decode cX5_init 93 = .ok (.aaload, 1) := by decide +kernel
theorem dX5_init_94 : decode cX5_init 94 = .ok (.iconst 1, 1) := by decide +kernel
theorem dX5_init_95 : decode cX5_init 95 = .ok (.sipush 10005, 3) := by decide +kernel
theorem dX5_init_98 : decode cX5_init 98 = .ok (.iastore, 1) := by decide +kernel
theorem dX5_init_99 : decode cX5_init 99 = .ok (.aload_n 0, 1) := by decide +kernel
theorem dX5_init_100 : decode cX5_init 100 = .ok (.getfield 17, 3) := by decide +kernel
theorem dX5_init_103 : decode cX5_init 103 = .ok (.iconst 0, 1) := by decide +kernel
theorem dX5_init_104 : decode cX5_init 104 = .ok (.aaload, 1) := by decide +kernel
theorem dX5_init_105 : decode cX5_init 105 = .ok (.iconst 2, 1) := by decide +kernel
theorem dX5_init_106 : decode cX5_init 106 = .ok (.iconst 1, 1) := by decide +kernel
theorem dX5_init_107 : decode cX5_init 107 = .ok (.iastore, 1) := by decide +kernel
theorem dX5_init_108 : decode cX5_init 108 = .ok (.iconst 0, 1) := by decide +kernel
theorem dX5_init_109 : decode cX5_init 109 = .ok (.istore_n 1, 1) := by decide +kernel
theorem dX5_init_110 : decode cX5_init 110 = .ok (.iload_n 1, 1) := by decide +kernel
theorem dX5_init_111 : decode cX5_init 111 = .ok (.iconst 3, 1) := by decide +kernel
theorem dX5_init_112 : decode cX5_init 112 = .ok (.if_icmp .gt 18, 3) := by decide +kernel
theorem dX5_init_115 : decode cX5_init 115 = .ok (.aload_n 0, 1) := by decide +kernel
theorem dX5_init_116 : decode cX5_init 116 = .ok (.getfield 20, 3) := by decide +kernel
theorem dX5_init_119 : decode cX5_init 119 = .ok (.iconst 0, 1) := by decide +kernel
theorem dX5_init_120 : decode cX5_init 120 = .ok (.aaload, 1) := by decide +kernel
theorem dX5_init_121 : decode cX5_init 121 = .ok (.iload_n 1, 1) := by decide +kernel
theorem dX5_init_122 : decode cX5_init 122 = .ok (.iload_n 1, 1) := by decide +kernel
theorem dX5_init_123 : decode cX5_init 123 = .ok (.iastore, 1) := by decide +kernel
theorem dX5_init_124 : decode cX5_init 124 = .ok (.iinc 1 1, 3) := by decide +kernel
theorem dX5_init_127 : decode cX5_init 127 = .ok (.goto (-17), 3) := by decide +kernel
theorem dX5_init_130 : decode cX5_init 130 = .ok (.return_, 1) := by decide +kernel
theorem dX5_append_0 : decode cX5_append 0 = .ok (.aload_n 0, 1) := by decide +kernel
theorem dX5_append_1 : decode cX5_append 1 = .ok (.getfield 40, 3) := by decide +kernel
theorem dX5_append_4 : decode cX5_append 4 = .ok (.sipush 160, 3) := by decide +kernel
theorem dX5_append_7 : decode cX5_append 7 = .ok (.if_icmp .lt 6, 3) := by decide +kernel
theorem dX5_append_10 : decode cX5_append 10 = .ok (.bipush (-4), 2) := by decide +kernel
theorem dX5_append_12 : decode cX5_append 12 = .ok (.ireturn, 1) := by decide +kernel
theorem dX5_append_13 : decode cX5_append 13 = .ok (.aload_n 0, 1) := by decide +kernel
theorem dX5_append_14 : decode cX5_append 14 = .ok (.getfield 9, 3) := by decide +kernel
theorem dX5_append_17 : decode cX5_append 17 = .ok (.aload_n 0, 1) := by decide +kernel
theorem dX5_append_18 : decode cX5_append 18 = .ok (.getfield 40, 3) := by decide +kernel
theorem dX5_append_21 : decode cX5_append 21 = .ok (.iload_n 1, 1) := by decide +kernel
theorem dX5_append_22 : decode cX5_append 22 = .ok (.iastore, 1) := by decide +kernel
theorem dX5_append_23 : decode cX5_append 23 = .ok (.aload_n 0, 1) := by decide +kernel
theorem dX5_append_24 : decode cX5_append 24 = .ok (.dup, 1) := by decide +kernel
theorem dX5_append_25 : decode cX5_append 25 = .ok (.getfield 40, 3) := by decide +kernel
theorem dX5_append_28 : decode cX5_append 28 = .ok (.iconst 1, 1) := by decide +kernel
theorem dX5_append_29 : decode cX5_append 29 = .ok (.iadd, 1) := by decide +kernel
theorem dX5_append_30 : decode cX5_append 30 = .ok (.putfield 40, 3) := by decide +kernel
theorem dX5_append_33 : decode cX5_append 33 = .ok (.aload_n 0, 1) := by decide +kernel
theorem dX5_append_34 : decode cX5_append 34 = .ok (.getfield 40, 3) := by decide +kernel
theorem dX5_append_37 : decode cX5_append 37 = .ok (.ireturn, 1) := by decide +kernel
theorem dX5_take_0 : decode cX5_take 0 = .ok (.aload_n 0, 1) := by decide +kernel
theorem dX5_take_1 : decode cX5_take 1 = .ok (.getfield 44, 3) := by decide +kernel
theorem dX5_take_4 : decode cX5_take 4 = .ok (.bipush 6, 2) := by decide +kernel
theorem dX5_take_6 : decode cX5_take 6 = .ok (.if_icmp .lt 6, 3) := by decide +kernel
theorem dX5_take_9 : decode cX5_take 9 = .ok (.bipush (-4), 2) := by decide +kernel
theorem dX5_take_11 : decode cX5_take 11 = .ok (.ireturn, 1) := by decide +kernel
theorem dX5_take_12 : decode cX5_take 12 = .ok (.aload_n 0, 1) := by decide +kernel
theorem dX5_take_13 : decode cX5_take 13 = .ok (.getfield 36, 3) := by decide +kernel
theorem dX5_take_16 : decode cX5_take 16 = .ok (.aload_n 0, 1) := by decide +kernel
theorem dX5_take_17 : decode cX5_take 17 = .ok (.getfield 40, 3) := by decide +kernel
theorem dX5_take_20 : decode cX5_take 20 = .ok (.aload_n 0, 1) := by decide +kernel
theorem dX5_take_21 : decode cX5_take 21 = .ok (.getfield 17, 3) := by decide +kernel
theorem dX5_take_24 : decode cX5_take 24 = .ok (.aload_n 0, 1) := by decide +kernel
theorem dX5_take_25 : decode cX5_take 25 = .ok (.getfield 44, 3) := by decide +kernel
theorem dX5_take_28 : decode cX5_take 28 = .ok (.aaload, 1) := by decide +kernel
theorem dX5_take_29 : decode cX5_take 29 = .ok (.aload_n 0, 1) := by decide +kernel
theorem dX5_take_30 : decode cX5_take 30 = .ok (.getfield 20, 3) := by decide +kernel
theorem dX5_take_33 : decode cX5_take 33 = .ok (.aload_n 0, 1) := by decide +kernel
theorem dX5_take_34 : decode cX5_take 34 = .ok (.getfield 44, 3) := by decide +kernel
theorem dX5_take_37 : decode cX5_take 37 = .ok (.aaload, 1) := by decide +kernel
theorem dX5_take_38 : decode cX5_take 38 = .ok (.invokevirtual 47, 3) := by decide +kernel
theorem dX5_take_41 : decode cX5_take 41 = .ok (.istore_n 1, 1) := by decide +kernel
theorem dX5_take_42 : decode cX5_take 42 = .ok (.aload_n 0, 1) := by decide +kernel
theorem dX5_take_43 : decode cX5_take 43 = .ok (.iconst 0, 1) := by decide +kernel
theorem dX5_take_44 : decode cX5_take 44 = .ok (.putfield 40, 3) := by decide +kernel
theorem dX5_take_47 : decode cX5_take 47 = .ok (.iload_n 1, 1) := by decide +kernel
theorem dX5_take_48 : decode cX5_take 48 = .ok (.ifCond .lt 8, 3) := by decide +kernel
theorem dX5_take_51 : decode cX5_take 51 = .ok (.bipush (-100), 2) := by decide +kernel
theorem dX5_take_53 : decode cX5_take 53 = .ok (.iload_n 1, 1) := by decide +kernel
theorem dX5_take_54 : decode cX5_take 54 = .ok (.isub, 1) := by decide +kernel
theorem dX5_take_55 : decode cX5_take 55 = .ok (.ireturn, 1) := by decide +kernel
theorem dX5_take_56 : decode cX5_take 56 = .ok (.aload_n 0, 1) := by decide +kernel
theorem dX5_take_57 : decode cX5_take 57 = .ok (.dup, 1) := by decide +kernel
theorem dX5_take_58 : decode cX5_take 58 = .ok (.getfield 44, 3) := by decide +kernel
theorem dX5_take_61 : decode cX5_take 61 = .ok (.iconst 1, 1) := by decide +kernel
theorem dX5_take_62 : decode cX5_take 62 = .ok (.iadd, 1) := by decide +kernel
theorem dX5_take_63 : decode cX5_take 63 = .ok (.putfield 44, 3) := by decide +kernel
theorem dX5_take_66 : decode cX5_take 66 = .ok (.aload_n 0, 1) := by decide +kernel
theorem dX5_take_67 : decode cX5_take 67 = .ok (.getfield 44, 3) := by decide +kernel
theorem dX5_take_70 : decode cX5_take 70 = .ok (.iconst 1, 1) := by decide +kernel
theorem dX5_take_71 : decode cX5_take 71 = .ok (.isub, 1) := by decide +kernel
theorem dX5_take_72 : decode cX5_take 72 = .ok (.ireturn, 1) := by decide +kernel
theorem dX5_name_0 : decode cX5_name 0 = .ok (.aload_n 0, 1) := by decide +kernel
theorem dX5_name_1 : decode cX5_name 1 = .ok (.getfield 25, 3) := by decide +kernel
theorem dX5_name_4 : decode cX5_name 4 = .ok (.iconst 0, 1) := by decide +kernel
theorem dX5_name_5 : decode cX5_name 5 = .ok (.iload_n 1, 1) := by decide +kernel
theorem dX5_name_6 : decode cX5_name 6 = .ok (.iastore, 1) := by decide +kernel
theorem dX5_name_7 : decode cX5_name 7 = .ok (.aload_n 0, 1) := by decide +kernel
theorem dX5_name_8 : decode cX5_name 8 = .ok (.getfield 25, 3) := by decide +kernel
theorem dX5_name_11 : decode cX5_name 11 = .ok (.iconst 1, 1) := by decide +kernel
theorem dX5_name_12 : decode cX5_name 12 = .ok (.iload_n 2, 1) := by decide +kernel
theorem dX5_name_13 : decode cX5_name 13 = .ok (.iastore, 1) := by decide +kernel
theorem dX5_name_14 : decode cX5_name 14 = .ok (.aload_n 0, 1) := by decide +kernel
theorem dX5_name_15 : decode cX5_name 15 = .ok (.getfield 25, 3) := by decide +kernel
theorem dX5_name_18 : decode cX5_name 18 = .ok (.iconst 2, 1) := by decide +kernel
theorem dX5_name_19 : decode cX5_name 19 = .ok (.iload_n 3, 1) := by decide +kernel
theorem dX5_name_20 : decode cX5_name 20 = .ok (.iastore, 1) := by decide +kernel
theorem dX5_name_21 : decode cX5_name 21 = .ok (.aload_n 0, 1) := by decide +kernel
theorem dX5_name_22 : decode cX5_name 22 = .ok (.getfield 25, 3) := by decide +kernel
theorem dX5_name_25 : decode cX5_name 25 = .ok (.iconst 3, 1) := by decide +kernel
theorem dX5_name_26 : decode cX5_name 26 = .ok (.iload 4, 2) := by decide +kernel
theorem dX5_name_28 : decode cX5_name 28 = .ok (.iastore, 1) := by decide +kernel
theorem dX5_name_29 : decode cX5_name 29 = .ok (.aload_n 0, 1) := by decide +kernel
theorem dX5_name_30 : decode cX5_name 30 = .ok (.getfield 25, 3) := by decide +kernel
theorem dX5_name_33 : decode cX5_name 33 = .ok (.iconst 4, 1) := by decide +kernel
theorem dX5_name_34 : decode cX5_name 34 = .ok (.iload 5, 2) := by decide +kernel
theorem dX5_name_36 : decode cX5_name 36 = .ok (.iastore, 1) := by decide +kernel
theorem dX5_name_37 : decode cX5_name 37 = .ok (.aload_n 0, 1) := by decide +kernel
theorem dX5_name_38 : decode cX5_name 38 = .ok (.getfield 25, 3) := by decide +kernel
theorem dX5_name_41 : decode cX5_name 41 = .ok (.iconst 5, 1) := by decide +kernel
theorem dX5_name_42 : decode cX5_name 42 = .ok (.iload 6, 2) := by decide +kernel
theorem dX5_name_44 : decode cX5_name 44 = .ok (.iastore, 1) := by decide +kernel
theorem dX5_name_45 : decode cX5_name 45 = .ok (.return_, 1) := by decide +kernel
theorem dX5_bounded_0 : decode cX5_bounded 0 = .ok (.iload_n 1, 1) := by decide +kernel
theorem dX5_bounded_1 : decode cX5_bounded 1 = .ok (.ifCond .lt 20, 3) := by decide +kernel
theorem dX5_bounded_4 : decode cX5_bounded 4 = .ok (.iload_n 1, 1) := by decide +kernel
theorem dX5_bounded_5 : decode cX5_bounded 5 = .ok (.aload_n 0, 1) := by decide +kernel
theorem dX5_bounded_6 : decode cX5_bounded 6 = .ok (.getfield 44, 3) := by decide +kernel
theorem dX5_bounded_9 : decode cX5_bounded 9 = .ok (.if_icmp .ge 12, 3) := by decide +kernel
theorem dX5_bounded_12 : decode cX5_bounded 12 = .ok (.iload_n 2, 1) := by decide +kernel
theorem dX5_bounded_13 : decode cX5_bounded 13 = .ok (.ifCond .lt 8, 3) := by decide +kernel
theorem dX5_bounded_16 : decode cX5_bounded 16 = .ok (.iload_n 2, 1) := by decide +kernel
theorem dX5_bounded_17 : decode cX5_bounded 17 = .ok (.iconst 3, 1) := by decide +kernel
theorem dX5_bounded_18 : decode cX5_bounded 18 = .ok (.if_icmp .lt 5, 3) := by decide +kernel
theorem dX5_bounded_21 : decode cX5_bounded 21 = .ok (.iconst 0, 1) := by decide +kernel
theorem dX5_bounded_22 : decode cX5_bounded 22 = .ok (.ireturn, 1) := by decide +kernel
theorem dX5_bounded_23 : decode cX5_bounded 23 = .ok (.aload_n 0, 1) := by decide +kernel
theorem dX5_bounded_24 : decode cX5_bounded 24 = .ok (.getfield 17, 3) := by decide +kernel
theorem dX5_bounded_27 : decode cX5_bounded 27 = .ok (.iload_n 1, 1) := by decide +kernel
theorem dX5_bounded_28 : decode cX5_bounded 28 = .ok (.aaload, 1) := by decide +kernel
theorem dX5_bounded_29 : decode cX5_bounded 29 = .ok (.astore 4, 2) := by decide +kernel
theorem dX5_bounded_31 : decode cX5_bounded 31 = .ok (.iconst 0, 1) := by decide +kernel
theorem dX5_bounded_32 : decode cX5_bounded 32 = .ok (.istore 5, 2) := by decide +kernel
theorem dX5_bounded_34 : decode cX5_bounded 34 = .ok (.aload_n 0, 1) := by decide +kernel
theorem dX5_bounded_35 : decode cX5_bounded 35 = .ok (.getfield 20, 3) := by decide +kernel
theorem dX5_bounded_38 : decode cX5_bounded 38 = .ok (.iload_n 1, 1) := by decide +kernel
theorem dX5_bounded_39 : decode cX5_bounded 39 = .ok (.aaload, 1) := by decide +kernel
theorem dX5_bounded_40 : decode cX5_bounded 40 = .ok (.iload_n 2, 1) := by decide +kernel
theorem dX5_bounded_41 : decode cX5_bounded 41 = .ok (.iaload, 1) := by decide +kernel
theorem dX5_bounded_42 : decode cX5_bounded 42 = .ok (.istore 6, 2) := by decide +kernel
theorem dX5_bounded_44 : decode cX5_bounded 44 = .ok (.iload 6, 2) := by decide +kernel
theorem dX5_bounded_46 : decode cX5_bounded 46 = .ok (.aload_n 0, 1) := by decide +kernel
theorem dX5_bounded_47 : decode cX5_bounded 47 = .ok (.getfield 20, 3) := by decide +kernel
theorem dX5_bounded_50 : decode cX5_bounded 50 = .ok (.iload_n 1, 1) := by decide +kernel
theorem dX5_bounded_51 : decode cX5_bounded 51 = .ok (.aaload, 1) := by decide +kernel
theorem dX5_bounded_52 : decode cX5_bounded 52 = .ok (.iload_n 2, 1) := by decide +kernel
theorem dX5_bounded_53 : decode cX5_bounded 53 = .ok (.iconst 1, 1) := by decide +kernel
theorem dX5_bounded_54 : decode cX5_bounded 54 = .ok (.iadd, 1) := by decide +kernel
theorem dX5_bounded_55 : decode cX5_bounded 55 = .ok (.iaload, 1) := by decide +kernel
theorem dX5_bounded_56 : decode cX5_bounded 56 = .ok (.if_icmp .ge 30, 3) := by decide +kernel
theorem dX5_bounded_59 : decode cX5_bounded 59 = .ok (.iload 6, 2) := by decide +kernel
theorem dX5_bounded_61 : decode cX5_bounded 61 = .ok (.sipush 160, 3) := by decide +kernel
theorem dX5_bounded_64 : decode cX5_bounded 64 = .ok (.if_icmp .ge 22, 3) := by decide +kernel
theorem dX5_bounded_67 : decode cX5_bounded 67 = .ok (.aload_n 0, 1) := by decide +kernel
theorem dX5_bounded_68 : decode cX5_bounded 68 = .ok (.aload 4, 2) := by decide +kernel
theorem dX5_bounded_70 : decode cX5_bounded 70 = .ok (.iload 6, 2) := by decide +kernel
theorem dX5_bounded_72 : decode cX5_bounded 72 = .ok (.iaload, 1) := by decide +kernel
theorem dX5_bounded_73 : decode cX5_bounded 73 = .ok (.iload 5, 2) := by decide +kernel
theorem dX5_bounded_75 : decode cX5_bounded 75 = .ok (.invokevirtual 51, 3) := by decide +kernel
theorem dX5_bounded_78 : decode cX5_bounded 78 = .ok (.istore 5, 2) := by decide +kernel
theorem dX5_bounded_80 : decode cX5_bounded 80 = .ok (.iinc 6 1, 3) := by decide +kernel
theorem dX5_bounded_83 : decode cX5_bounded 83 = .ok (.goto (-39), 3) := by decide +kernel
theorem dX5_bounded_86 : decode cX5_bounded 86 = .ok (.iconst 0, 1) := by decide +kernel
theorem dX5_bounded_87 : decode cX5_bounded 87 = .ok (.iload_n 3, 1) := by decide +kernel
theorem dX5_bounded_88 : decode cX5_bounded 88 = .ok (.aload_n 0, 1) := by decide +kernel
theorem dX5_bounded_89 : decode cX5_bounded 89 = .ok (.getfield 28, 3) := by decide +kernel
theorem dX5_bounded_92 : decode cX5_bounded 92 = .ok (.iconst 0, 1) := by decide +kernel
theorem dX5_bounded_93 : decode cX5_bounded 93 = .ok (.iaload, 1) := by decide +kernel
theorem dX5_bounded_94 : decode cX5_bounded 94 = .ok (.invokestatic 55, 3) := by decide +kernel
theorem dX5_bounded_97 : decode cX5_bounded 97 = .ok (.invokestatic 60, 3) := by decide +kernel
theorem dX5_bounded_100 : decode cX5_bounded 100 = .ok (.ireturn, 1) := by decide +kernel
theorem dX5_step_0 : decode cX5_step 0 = .ok (.iload_n 1, 1) := by decide +kernel
theorem dX5_step_1 : decode cX5_step 1 = .ok (.ifCond .lt 12, 3) := by decide +kernel
theorem dX5_step_4 : decode cX5_step 4 = .ok (.iload_n 2, 1) := by decide +kernel
theorem dX5_step_5 : decode cX5_step 5 = .ok (.sipush 160, 3) := by decide +kernel
theorem dX5_step_8 : decode cX5_step 8 = .ok (.if_icmp .lt 5, 3) := by decide +kernel
theorem dX5_step_11 : decode cX5_step 11 = .ok (.iload_n 2, 1) := by decide +kernel
theorem dX5_step_12 : decode cX5_step 12 = .ok (.ireturn, 1) := by decide +kernel
theorem dX5_step_13 : decode cX5_step 13 = .ok (.iload_n 1, 1) := by decide +kernel
theorem dX5_step_14 : decode cX5_step 14 = .ok (.ifCond .lt 39, 3) := by decide +kernel
theorem dX5_step_17 : decode cX5_step 17 = .ok (.iload_n 1, 1) := by decide +kernel
theorem dX5_step_18 : decode cX5_step 18 = .ok (.sipush 10000, 3) := by decide +kernel
theorem dX5_step_21 : decode cX5_step 21 = .ok (.isub, 1) := by decide +kernel
theorem dX5_step_22 : decode cX5_step 22 = .ok (.istore_n 3, 1) := by decide +kernel
theorem dX5_step_23 : decode cX5_step 23 = .ok (.aload_n 0, 1) := by decide +kernel
theorem dX5_step_24 : decode cX5_step 24 = .ok (.getfield 28, 3) := by decide +kernel
theorem dX5_step_27 : decode cX5_step 27 = .ok (.iload_n 2, 1) := by decide +kernel
theorem dX5_step_28 : decode cX5_step 28 = .ok (.iload_n 3, 1) := by decide +kernel
theorem dX5_step_29 : decode cX5_step 29 = .ok (.ifCond .lt 18, 3) := by decide +kernel
theorem dX5_step_32 : decode cX5_step 32 = .ok (.iload_n 3, 1) := by decide +kernel
theorem dX5_step_33 : decode cX5_step 33 = .ok (.bipush 6, 2) := by decide +kernel
theorem dX5_step_35 : decode cX5_step 35 = .ok (.if_icmp .ge 12, 3) := by decide +kernel
theorem dX5_step_38 : decode cX5_step 38 = .ok (.aload_n 0, 1) := by decide +kernel
theorem dX5_step_39 : decode cX5_step 39 = .ok (.getfield 25, 3) := by decide +kernel
theorem dX5_step_42 : decode cX5_step 42 = .ok (.iload_n 3, 1) := by decide +kernel
theorem dX5_step_43 : decode cX5_step 43 = .ok (.iaload, 1) := by decide +kernel
theorem dX5_step_44 : decode cX5_step 44 = .ok (.goto 4, 3) := by decide +kernel
theorem dX5_step_47 : decode cX5_step 47 = .ok (.iload_n 1, 1) := by decide +kernel
theorem dX5_step_48 : decode cX5_step 48 = .ok (.iastore, 1) := by decide +kernel
theorem dX5_step_49 : decode cX5_step 49 = .ok (.iload_n 2, 1) := by decide +kernel
theorem dX5_step_50 : decode cX5_step 50 = .ok (.iconst 1, 1) := by decide +kernel
theorem dX5_step_51 : decode cX5_step 51 = .ok (.iadd, 1) := by decide +kernel
theorem dX5_step_52 : decode cX5_step 52 = .ok (.ireturn, 1) := by decide +kernel
theorem dX5_step_53 : decode cX5_step 53 = .ok (.iload_n 1, 1) := by decide +kernel
theorem dX5_step_54 : decode cX5_step 54 = .ok (.bipush (-8), 2) := by decide +kernel
theorem dX5_step_56 : decode cX5_step 56 = .ok (.if_icmp .eq 9, 3) := by decide +kernel
theorem dX5_step_59 : decode cX5_step 59 = .ok (.iload_n 1, 1) := by decide +kernel
theorem dX5_step_60 : decode cX5_step 60 = .ok (.bipush (-9), 2) := by decide +kernel
theorem dX5_step_62 : decode cX5_step 62 = .ok (.if_icmp .ne 7, 3) := by decide +kernel
theorem dX5_step_65 : decode cX5_step 65 = .ok (.iconst 1, 1) := by decide +kernel
theorem dX5_step_66 : decode cX5_step 66 = .ok (.goto 4, 3) := by decide +kernel
theorem dX5_step_69 : decode cX5_step 69 = .ok (.iconst 0, 1) := by decide +kernel
theorem dX5_step_70 : decode cX5_step 70 = .ok (.istore_n 3, 1) := by decide +kernel
theorem dX5_step_71 : decode cX5_step 71 = .ok (.iload_n 3, 1) := by decide +kernel
theorem dX5_step_72 : decode cX5_step 72 = .ok (.ifCond .eq 9, 3) := by decide +kernel
theorem dX5_step_75 : decode cX5_step 75 = .ok (.iload_n 2, 1) := by decide +kernel
theorem dX5_step_76 : decode cX5_step 76 = .ok (.iconst 1, 1) := by decide +kernel
theorem dX5_step_77 : decode cX5_step 77 = .ok (.isub, 1) := by decide +kernel
theorem dX5_step_78 : decode cX5_step 78 = .ok (.goto 6, 3) := by decide +kernel
theorem dX5_step_81 : decode cX5_step 81 = .ok (.iload_n 2, 1) := by decide +kernel
theorem dX5_step_82 : decode cX5_step 82 = .ok (.iconst 2, 1) := by decide +kernel
theorem dX5_step_83 : decode cX5_step 83 = .ok (.isub, 1) := by decide +kernel
theorem dX5_step_84 : decode cX5_step 84 = .ok (.istore 4, 2) := by decide +kernel
theorem dX5_step_86 : decode cX5_step 86 = .ok (.iload 4, 2) := by decide +kernel
theorem dX5_step_88 : decode cX5_step 88 = .ok (.ifCond .ge 5, 3) := by decide +kernel
theorem dX5_step_91 : decode cX5_step 91 = .ok (.iload_n 2, 1) := by decide +kernel
theorem dX5_step_92 : decode cX5_step 92 = .ok (.ireturn, 1) := by decide +kernel
theorem dX5_step_93 : decode cX5_step 93 = .ok (.aload_n 0, 1) := by decide +kernel
theorem dX5_step_94 : decode cX5_step 94 = .ok (.getfield 28, 3) := by decide +kernel
theorem dX5_step_97 : decode cX5_step 97 = .ok (.iload 4, 2) := by decide +kernel
theorem dX5_step_99 : decode cX5_step 99 = .ok (.iaload, 1) := by decide +kernel
theorem dX5_step_100 : decode cX5_step 100 = .ok (.istore 5, 2) := by decide +kernel
theorem dX5_step_102 : decode cX5_step 102 = .ok (.aload_n 0, 1) := by decide +kernel
theorem dX5_step_103 : decode cX5_step 103 = .ok (.getfield 28, 3) := by decide +kernel
theorem dX5_step_106 : decode cX5_step 106 = .ok (.iload_n 2, 1) := by decide +kernel
theorem dX5_step_107 : decode cX5_step 107 = .ok (.iconst 1, 1) := by decide +kernel
theorem dX5_step_108 : decode cX5_step 108 = .ok (.isub, 1) := by decide +kernel
theorem dX5_step_109 : decode cX5_step 109 = .ok (.iaload, 1) := by decide +kernel
theorem dX5_step_110 : decode cX5_step 110 = .ok (.istore 6, 2) := by decide +kernel
theorem dX5_step_112 : decode cX5_step 112 = .ok (.iload_n 1, 1) := by decide +kernel
theorem dX5_step_113 : decode cX5_step 113 = .ok (.tableswitch 198 (-9) (-1) #[71, 51, 198, 173, 151, 129, 114, 99, 84], 51) := by decide +kernel
theorem dX5_step_164 : decode cX5_step 164 = .ok (.aload_n 0, 1) := by decide +kernel
theorem dX5_step_165 : decode cX5_step 165 = .ok (.getfield 28, 3) := by decide +kernel
theorem dX5_step_168 : decode cX5_step 168 = .ok (.iload 4, 2) := by decide +kernel
theorem dX5_step_170 : decode cX5_step 170 = .ok (.iload 5, 2) := by decide +kernel
theorem dX5_step_172 : decode cX5_step 172 = .ok (.ifCond .ne 7, 3) := by decide +kernel
theorem dX5_step_175 : decode cX5_step 175 = .ok (.iconst 1, 1) := by decide +kernel
theorem dX5_step_176 : decode cX5_step 176 = .ok (.goto 4, 3) := by decide +kernel
theorem dX5_step_179 : decode cX5_step 179 = .ok (.iconst 0, 1) := by decide +kernel
theorem dX5_step_180 : decode cX5_step 180 = .ok (.iastore, 1) := by decide +kernel
theorem dX5_step_181 : decode cX5_step 181 = .ok (.goto 152, 3) := by decide +kernel
theorem dX5_step_184 : decode cX5_step 184 = .ok (.aload_n 0, 1) := by decide +kernel
theorem dX5_step_185 : decode cX5_step 185 = .ok (.getfield 28, 3) := by decide +kernel
theorem dX5_step_188 : decode cX5_step 188 = .ok (.iload 4, 2) := by decide +kernel
theorem dX5_step_190 : decode cX5_step 190 = .ok (.iload 5, 2) := by decide +kernel
theorem dX5_step_192 : decode cX5_step 192 = .ok (.ineg, 1) := by decide +kernel
theorem dX5_step_193 : decode cX5_step 193 = .ok (.iastore, 1) := by decide +kernel
theorem dX5_step_194 : decode cX5_step 194 = .ok (.goto 139, 3) := by decide +kernel
theorem dX5_step_197 : decode cX5_step 197 = .ok (.aload_n 0, 1) := by decide +kernel
theorem dX5_step_198 : decode cX5_step 198 = .ok (.getfield 28, 3) := by decide +kernel
theorem dX5_step_201 : decode cX5_step 201 = .ok (.iload 4, 2) := by decide +kernel
theorem dX5_step_203 : decode cX5_step 203 = .ok (.iload 5, 2) := by decide +kernel
theorem dX5_step_205 : decode cX5_step 205 = .ok (.iload 6, 2) := by decide +kernel
theorem dX5_step_207 : decode cX5_step 207 = .ok (.iadd, 1) := by decide +kernel
theorem dX5_step_208 : decode cX5_step 208 = .ok (.iastore, 1) := by decide +kernel
theorem dX5_step_209 : decode cX5_step 209 = .ok (.goto 124, 3) := by decide +kernel
theorem dX5_step_212 : decode cX5_step 212 = .ok (.aload_n 0, 1) := by decide +kernel
theorem dX5_step_213 : decode cX5_step 213 = .ok (.getfield 28, 3) := by decide +kernel
theorem dX5_step_216 : decode cX5_step 216 = .ok (.iload 4, 2) := by decide +kernel
theorem dX5_step_218 : decode cX5_step 218 = .ok (.iload 5, 2) := by decide +kernel
theorem dX5_step_220 : decode cX5_step 220 = .ok (.iload 6, 2) := by decide +kernel
theorem dX5_step_222 : decode cX5_step 222 = .ok (.isub, 1) := by decide +kernel
theorem dX5_step_223 : decode cX5_step 223 = .ok (.iastore, 1) := by decide +kernel
theorem dX5_step_224 : decode cX5_step 224 = .ok (.goto 109, 3) := by decide +kernel
theorem dX5_step_227 : decode cX5_step 227 = .ok (.aload_n 0, 1) := by decide +kernel
theorem dX5_step_228 : decode cX5_step 228 = .ok (.getfield 28, 3) := by decide +kernel
theorem dX5_step_231 : decode cX5_step 231 = .ok (.iload 4, 2) := by decide +kernel
theorem dX5_step_233 : decode cX5_step 233 = .ok (.iload 5, 2) := by decide +kernel
theorem dX5_step_235 : decode cX5_step 235 = .ok (.iload 6, 2) := by decide +kernel
theorem dX5_step_237 : decode cX5_step 237 = .ok (.imul, 1) := by decide +kernel
theorem dX5_step_238 : decode cX5_step 238 = .ok (.iastore, 1) := by decide +kernel
theorem dX5_step_239 : decode cX5_step 239 = .ok (.goto 94, 3) := by decide +kernel
theorem dX5_step_242 : decode cX5_step 242 = .ok (.aload_n 0, 1) := by decide +kernel
theorem dX5_step_243 : decode cX5_step 243 = .ok (.getfield 28, 3) := by decide +kernel
theorem dX5_step_246 : decode cX5_step 246 = .ok (.iload 4, 2) := by decide +kernel
theorem dX5_step_248 : decode cX5_step 248 = .ok (.iload 5, 2) := by decide +kernel
theorem dX5_step_250 : decode cX5_step 250 = .ok (.iload 6, 2) := by decide +kernel
theorem dX5_step_252 : decode cX5_step 252 = .ok (.if_icmp .ge 7, 3) := by decide +kernel
theorem dX5_step_255 : decode cX5_step 255 = .ok (.iconst 1, 1) := by decide +kernel
theorem dX5_step_256 : decode cX5_step 256 = .ok (.goto 4, 3) := by decide +kernel
theorem dX5_step_259 : decode cX5_step 259 = .ok (.iconst 0, 1) := by decide +kernel
theorem dX5_step_260 : decode cX5_step 260 = .ok (.iastore, 1) := by decide +kernel
theorem dX5_step_261 : decode cX5_step 261 = .ok (.goto 72, 3) := by decide +kernel
theorem dX5_step_264 : decode cX5_step 264 = .ok (.aload_n 0, 1) := by decide +kernel
theorem dX5_step_265 : decode cX5_step 265 = .ok (.getfield 28, 3) := by decide +kernel
theorem dX5_step_268 : decode cX5_step 268 = .ok (.iload 4, 2) := by decide +kernel
theorem dX5_step_270 : decode cX5_step 270 = .ok (.iload 5, 2) := by decide +kernel
theorem dX5_step_272 : decode cX5_step 272 = .ok (.iload 6, 2) := by decide +kernel
theorem dX5_step_274 : decode cX5_step 274 = .ok (.if_icmp .ne 7, 3) := by decide +kernel
theorem dX5_step_277 : decode cX5_step 277 = .ok (.iconst 1, 1) := by decide +kernel
theorem dX5_step_278 : decode cX5_step 278 = .ok (.goto 4, 3) := by decide +kernel
theorem dX5_step_281 : decode cX5_step 281 = .ok (.iconst 0, 1) := by decide +kernel
theorem dX5_step_282 : decode cX5_step 282 = .ok (.iastore, 1) := by decide +kernel
theorem dX5_step_283 : decode cX5_step 283 = .ok (.goto 50, 3) := by decide +kernel
theorem dX5_step_286 : decode cX5_step 286 = .ok (.aload_n 0, 1) := by decide +kernel
theorem dX5_step_287 : decode cX5_step 287 = .ok (.getfield 28, 3) := by decide +kernel
theorem dX5_step_290 : decode cX5_step 290 = .ok (.iload 4, 2) := by decide +kernel
theorem dX5_step_292 : decode cX5_step 292 = .ok (.iload 5, 2) := by decide +kernel
theorem dX5_step_294 : decode cX5_step 294 = .ok (.ifCond .eq 12, 3) := by decide +kernel
theorem dX5_step_297 : decode cX5_step 297 = .ok (.iload 6, 2) := by decide +kernel
theorem dX5_step_299 : decode cX5_step 299 = .ok (.ifCond .eq 7, 3) := by decide +kernel
theorem dX5_step_302 : decode cX5_step 302 = .ok (.iconst 1, 1) := by decide +kernel
theorem dX5_step_303 : decode cX5_step 303 = .ok (.goto 4, 3) := by decide +kernel
theorem dX5_step_306 : decode cX5_step 306 = .ok (.iconst 0, 1) := by decide +kernel
theorem dX5_step_307 : decode cX5_step 307 = .ok (.iastore, 1) := by decide +kernel
theorem dX5_step_308 : decode cX5_step 308 = .ok (.goto 25, 3) := by decide +kernel
theorem dX5_step_311 : decode cX5_step 311 = .ok (.aload_n 0, 1) := by decide +kernel
theorem dX5_step_312 : decode cX5_step 312 = .ok (.getfield 28, 3) := by decide +kernel
theorem dX5_step_315 : decode cX5_step 315 = .ok (.iload 4, 2) := by decide +kernel
theorem dX5_step_317 : decode cX5_step 317 = .ok (.iload 5, 2) := by decide +kernel
theorem dX5_step_319 : decode cX5_step 319 = .ok (.ifCond .ne 8, 3) := by decide +kernel
theorem dX5_step_322 : decode cX5_step 322 = .ok (.iload 6, 2) := by decide +kernel
theorem dX5_step_324 : decode cX5_step 324 = .ok (.ifCond .eq 7, 3) := by decide +kernel
theorem dX5_step_327 : decode cX5_step 327 = .ok (.iconst 1, 1) := by decide +kernel
theorem dX5_step_328 : decode cX5_step 328 = .ok (.goto 4, 3) := by decide +kernel
theorem dX5_step_331 : decode cX5_step 331 = .ok (.iconst 0, 1) := by decide +kernel
theorem dX5_step_332 : decode cX5_step 332 = .ok (.iastore, 1) := by decide +kernel
theorem dX5_step_333 : decode cX5_step 333 = .ok (.iload 4, 2) := by decide +kernel
theorem dX5_step_335 : decode cX5_step 335 = .ok (.iconst 1, 1) := by decide +kernel
theorem dX5_step_336 : decode cX5_step 336 = .ok (.iadd, 1) := by decide +kernel
theorem dX5_step_337 : decode cX5_step 337 = .ok (.ireturn, 1) := by decide +kernel
