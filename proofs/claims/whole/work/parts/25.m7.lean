def imgM (M : fM) : fM := up (up (up (up (up (up (up (up (up (up (up (up (up (up (up (up (up (up (up (up M 83 0 (M 65 0)) 83 4 (M 66 0)) 83 8 (M 67 0)) 83 12 (M 64 0)) 83 1 (M 65 1)) 83 5 (M 66 1)) 83 9 (M 67 1)) 83 13 (M 64 1)) 83 2 (M 65 2)) 83 6 (M 66 2)) 83 10 (M 67 2)) 83 14 (M 64 2)) 83 3 (M 65 3)) 83 7 (M 66 3)) 83 11 (M 67 3)) 83 15 (M 64 3)) 59 53 (M 59 12)) 59 54 (M 59 13)) 59 55 (M 59 14)) 59 56 (M 59 4)
def bckM (M : fM) : fM := up (up (up (up (up (up (up (up (up (up (up (up (up (up (up (up (up (up (up (up M 65 0 (M 83 0)) 66 0 (M 83 4)) 67 0 (M 83 8)) 64 0 (M 83 12)) 65 1 (M 83 1)) 66 1 (M 83 5)) 67 1 (M 83 9)) 64 1 (M 83 13)) 65 2 (M 83 2)) 66 2 (M 83 6)) 67 2 (M 83 10)) 64 2 (M 83 14)) 65 3 (M 83 3)) 66 3 (M 83 7)) 67 3 (M 83 11)) 64 3 (M 83 15)) 59 12 (M 59 53)) 59 13 (M 59 54)) 59 14 (M 59 55)) 59 4 (M 59 56)
def asideM (M : fM) : fM := up (up (up (up (up (up (up (up (up (up (up (up (up M 80 0 (M 65 0)) 81 0 (M 66 0)) 82 0 (M 67 0)) 80 1 (M 65 1)) 81 1 (M 66 1)) 82 1 (M 67 1)) 80 2 (M 65 2)) 81 2 (M 66 2)) 82 2 (M 67 2)) 80 3 (M 65 3)) 81 3 (M 66 3)) 82 3 (M 67 3)) 59 51 (M 59 14)
def lbackM (M : fM) : fM := up (up (up (up (up (up (up (up (up (up (up (up (up M 65 0 (M 80 0)) 66 0 (M 81 0)) 67 0 (M 82 0)) 65 1 (M 80 1)) 66 1 (M 81 1)) 67 1 (M 82 1)) 65 2 (M 80 2)) 66 2 (M 81 2)) 67 2 (M 82 2)) 65 3 (M 80 3)) 66 3 (M 81 3)) 67 3 (M 82 3)) 59 14 (M 59 51)
set_option maxRecDepth 20000 in
set_option maxHeartbeats 4000000 in
theorem t_X7_image {X : fX} {M : fM} {d : Nat} : fC X d mX7_image [.ref (xa X 59)] M (QI fun r M' => M' = imgM M ∧ r = M 59 12) := by
  refine fC.of (L := [_, _]) (by decide +kernel) rfl (Nat.le_of_ble_eq_true rfl) (fun Z hZ hR => ?_)
  refine f_iconst hZ dX7_image_0 ?_
  refine f_istore_n (L' := [_, _]) hZ dX7_image_1 rfl rfl ?_
  refine f_iload_n hZ dX7_image_2 rfl ?_
  refine f_iconst hZ dX7_image_3 ?_
  refine f_ige (tgt := 69) hZ dX7_image_4 rfl (by omega) (by omega) (fun h4 => ?_) (fun h4 => ?_)
  · exfalso; omega
  · refine f_aload_n hZ dX7_image_7 rfl ?_
    refine gX7_84 hZ dX7_image_8 ?_
    refine f_iload_n hZ dX7_image_11 rfl ?_
    refine f_aload_n hZ dX7_image_12 rfl ?_
    refine gX7_29 hZ dX7_image_13 ?_
    refine f_iload_n hZ dX7_image_16 rfl ?_
    refine f_iaload hZ dX7_image_17 (by first | rfl | exact hC.t1 | exact hC.t2 | exact hC.t3 | exact hC.t4 | exact hC.t5) (by first | rfl | exact hC.l1 | exact hC.l2 | exact hC.l3 | exact hC.l4 | exact hC.l5) (by omega) (by omega) (fun r17 => ?_)
    refine f_iastore hZ dX7_image_18 (by first | rfl | exact hC.t1 | exact hC.t2 | exact hC.t3 | exact hC.t4 | exact hC.t5) (by first | rfl | exact hC.l1 | exact hC.l2 | exact hC.l3 | exact hC.l4 | exact hC.l5) (by omega) (by omega) (by omega) ?_
    refine f_aload_n hZ dX7_image_19 rfl ?_
    refine gX7_84 hZ dX7_image_20 ?_
    refine f_iconst hZ dX7_image_23 ?_
    refine f_iload_n hZ dX7_image_24 rfl ?_
    refine f_iadd hZ dX7_image_25 ?_
    refine f_aload_n hZ dX7_image_26 rfl ?_
    refine gX7_32 hZ dX7_image_27 ?_
    refine f_iload_n hZ dX7_image_30 rfl ?_
    refine f_iaload hZ dX7_image_31 (by first | rfl | exact hC.t1 | exact hC.t2 | exact hC.t3 | exact hC.t4 | exact hC.t5) (by first | rfl | exact hC.l1 | exact hC.l2 | exact hC.l3 | exact hC.l4 | exact hC.l5) (by omega) (by omega) (fun r31 => ?_)
    try simp only [up_app, Nat.reduceEqDiff, Nat.reduceEqDiff, Int.reduceEq, and_true, true_and, and_false, false_and, if_true, if_false, reduceIte] at r31 ⊢
    refine f_iastore hZ dX7_image_32 (by first | rfl | exact hC.t1 | exact hC.t2 | exact hC.t3 | exact hC.t4 | exact hC.t5) (by first | rfl | exact hC.l1 | exact hC.l2 | exact hC.l3 | exact hC.l4 | exact hC.l5) (by omega) (by omega) (by omega) ?_
    refine f_aload_n hZ dX7_image_33 rfl ?_
    refine gX7_84 hZ dX7_image_34 ?_
    refine f_bipush hZ dX7_image_37 ?_
    refine f_iload_n hZ dX7_image_39 rfl ?_
    refine f_iadd hZ dX7_image_40 ?_
    refine f_aload_n hZ dX7_image_41 rfl ?_
    refine gX7_35 hZ dX7_image_42 ?_
    refine f_iload_n hZ dX7_image_45 rfl ?_
    refine f_iaload hZ dX7_image_46 (by first | rfl | exact hC.t1 | exact hC.t2 | exact hC.t3 | exact hC.t4 | exact hC.t5) (by first | rfl | exact hC.l1 | exact hC.l2 | exact hC.l3 | exact hC.l4 | exact hC.l5) (by omega) (by omega) (fun r46 => ?_)
    try simp only [up_app, Nat.reduceEqDiff, Nat.reduceEqDiff, Int.reduceEq, and_true, true_and, and_false, false_and, if_true, if_false, reduceIte] at r46 ⊢
    refine f_iastore hZ dX7_image_47 (by first | rfl | exact hC.t1 | exact hC.t2 | exact hC.t3 | exact hC.t4 | exact hC.t5) (by first | rfl | exact hC.l1 | exact hC.l2 | exact hC.l3 | exact hC.l4 | exact hC.l5) (by omega) (by omega) (by omega) ?_
    refine f_aload_n hZ dX7_image_48 rfl ?_
    refine gX7_84 hZ dX7_image_49 ?_
    refine f_bipush hZ dX7_image_52 ?_
    refine f_iload_n hZ dX7_image_54 rfl ?_
    refine f_iadd hZ dX7_image_55 ?_
    refine f_aload_n hZ dX7_image_56 rfl ?_
    refine gX7_26 hZ dX7_image_57 ?_
    refine f_iload_n hZ dX7_image_60 rfl ?_
    refine f_iaload hZ dX7_image_61 (by first | rfl | exact hC.t1 | exact hC.t2 | exact hC.t3 | exact hC.t4 | exact hC.t5) (by first | rfl | exact hC.l1 | exact hC.l2 | exact hC.l3 | exact hC.l4 | exact hC.l5) (by omega) (by omega) (fun r61 => ?_)
    try simp only [up_app, Nat.reduceEqDiff, Nat.reduceEqDiff, Int.reduceEq, and_true, true_and, and_false, false_and, if_true, if_false, reduceIte] at r61 ⊢
    refine f_iastore hZ dX7_image_62 (by first | rfl | exact hC.t1 | exact hC.t2 | exact hC.t3 | exact hC.t4 | exact hC.t5) (by first | rfl | exact hC.l1 | exact hC.l2 | exact hC.l3 | exact hC.l4 | exact hC.l5) (by omega) (by omega) (by omega) ?_
    refine f_iinc (L' := [_, _]) hZ dX7_image_63 rfl rfl ?_
    refine f_goto (tgt := 2) hZ dX7_image_66 rfl ?_
    refine f_iload_n hZ dX7_image_2 rfl ?_
    refine f_iconst hZ dX7_image_3 ?_
    refine f_ige (tgt := 69) hZ dX7_image_4 rfl (by omega) (by omega) (fun h4 => ?_) (fun h4 => ?_)
    · exfalso; omega
    · refine f_aload_n hZ dX7_image_7 rfl ?_
      refine gX7_84 hZ dX7_image_8 ?_
      refine f_iload_n hZ dX7_image_11 rfl ?_
      refine f_aload_n hZ dX7_image_12 rfl ?_
      refine gX7_29 hZ dX7_image_13 ?_
      refine f_iload_n hZ dX7_image_16 rfl ?_
      refine f_iaload hZ dX7_image_17 (by first | rfl | exact hC.t1 | exact hC.t2 | exact hC.t3 | exact hC.t4 | exact hC.t5) (by first | rfl | exact hC.l1 | exact hC.l2 | exact hC.l3 | exact hC.l4 | exact hC.l5) (by omega) (by omega) (fun r17 => ?_)
      try simp only [up_app, Nat.reduceEqDiff, Nat.reduceEqDiff, Int.reduceEq, and_true, true_and, and_false, false_and, if_true, if_false, reduceIte] at r17 ⊢
      refine f_iastore hZ dX7_image_18 (by first | rfl | exact hC.t1 | exact hC.t2 | exact hC.t3 | exact hC.t4 | exact hC.t5) (by first | rfl | exact hC.l1 | exact hC.l2 | exact hC.l3 | exact hC.l4 | exact hC.l5) (by omega) (by omega) (by omega) ?_
      refine f_aload_n hZ dX7_image_19 rfl ?_
      refine gX7_84 hZ dX7_image_20 ?_
      refine f_iconst hZ dX7_image_23 ?_
      refine f_iload_n hZ dX7_image_24 rfl ?_
      refine f_iadd hZ dX7_image_25 ?_
      refine f_aload_n hZ dX7_image_26 rfl ?_
      refine gX7_32 hZ dX7_image_27 ?_
      refine f_iload_n hZ dX7_image_30 rfl ?_
      refine f_iaload hZ dX7_image_31 (by first | rfl | exact hC.t1 | exact hC.t2 | exact hC.t3 | exact hC.t4 | exact hC.t5) (by first | rfl | exact hC.l1 | exact hC.l2 | exact hC.l3 | exact hC.l4 | exact hC.l5) (by omega) (by omega) (fun r31 => ?_)
      try simp only [up_app, Nat.reduceEqDiff, Nat.reduceEqDiff, Int.reduceEq, and_true, true_and, and_false, false_and, if_true, if_false, reduceIte] at r31 ⊢
      refine f_iastore hZ dX7_image_32 (by first | rfl | exact hC.t1 | exact hC.t2 | exact hC.t3 | exact hC.t4 | exact hC.t5) (by first | rfl | exact hC.l1 | exact hC.l2 | exact hC.l3 | exact hC.l4 | exact hC.l5) (by omega) (by omega) (by omega) ?_
      refine f_aload_n hZ dX7_image_33 rfl ?_
      refine gX7_84 hZ dX7_image_34 ?_
      refine f_bipush hZ dX7_image_37 ?_
      refine f_iload_n hZ dX7_image_39 rfl ?_
      refine f_iadd hZ dX7_image_40 ?_
      refine f_aload_n hZ dX7_image_41 rfl ?_
      refine gX7_35 hZ dX7_image_42 ?_
      refine f_iload_n hZ dX7_image_45 rfl ?_
      refine f_iaload hZ dX7_image_46 (by first | rfl | exact hC.t1 | exact hC.t2 | exact hC.t3 | exact hC.t4 | exact hC.t5) (by first | rfl | exact hC.l1 | exact hC.l2 | exact hC.l3 | exact hC.l4 | exact hC.l5) (by omega) (by omega) (fun r46 => ?_)
      try simp only [up_app, Nat.reduceEqDiff, Nat.reduceEqDiff, Int.reduceEq, and_true, true_and, and_false, false_and, if_true, if_false, reduceIte] at r46 ⊢
      refine f_iastore hZ dX7_image_47 (by first | rfl | exact hC.t1 | exact hC.t2 | exact hC.t3 | exact hC.t4 | exact hC.t5) (by first | rfl | exact hC.l1 | exact hC.l2 | exact hC.l3 | exact hC.l4 | exact hC.l5) (by omega) (by omega) (by omega) ?_
      refine f_aload_n hZ dX7_image_48 rfl ?_
      refine gX7_84 hZ dX7_image_49 ?_
      refine f_bipush hZ dX7_image_52 ?_
      refine f_iload_n hZ dX7_image_54 rfl ?_
      refine f_iadd hZ dX7_image_55 ?_
      refine f_aload_n hZ dX7_image_56 rfl ?_
      refine gX7_26 hZ dX7_image_57 ?_
      refine f_iload_n hZ dX7_image_60 rfl ?_
      refine f_iaload hZ dX7_image_61 (by first | rfl | exact hC.t1 | exact hC.t2 | exact hC.t3 | exact hC.t4 | exact hC.t5) (by first | rfl | exact hC.l1 | exact hC.l2 | exact hC.l3 | exact hC.l4 | exact hC.l5) (by omega) (by omega) (fun r61 => ?_)
      try simp only [up_app, Nat.reduceEqDiff, Nat.reduceEqDiff, Int.reduceEq, and_true, true_and, and_false, false_and, if_true, if_false, reduceIte] at r61 ⊢
      refine f_iastore hZ dX7_image_62 (by first | rfl | exact hC.t1 | exact hC.t2 | exact hC.t3 | exact hC.t4 | exact hC.t5) (by first | rfl | exact hC.l1 | exact hC.l2 | exact hC.l3 | exact hC.l4 | exact hC.l5) (by omega) (by omega) (by omega) ?_
      refine f_iinc (L' := [_, _]) hZ dX7_image_63 rfl rfl ?_
      refine f_goto (tgt := 2) hZ dX7_image_66 rfl ?_
      refine f_iload_n hZ dX7_image_2 rfl ?_
      refine f_iconst hZ dX7_image_3 ?_
      refine f_ige (tgt := 69) hZ dX7_image_4 rfl (by omega) (by omega) (fun h4 => ?_) (fun h4 => ?_)
      · exfalso; omega
      · refine f_aload_n hZ dX7_image_7 rfl ?_
        refine gX7_84 hZ dX7_image_8 ?_
        refine f_iload_n hZ dX7_image_11 rfl ?_
        refine f_aload_n hZ dX7_image_12 rfl ?_
        refine gX7_29 hZ dX7_image_13 ?_
        refine f_iload_n hZ dX7_image_16 rfl ?_
        refine f_iaload hZ dX7_image_17 (by first | rfl | exact hC.t1 | exact hC.t2 | exact hC.t3 | exact hC.t4 | exact hC.t5) (by first | rfl | exact hC.l1 | exact hC.l2 | exact hC.l3 | exact hC.l4 | exact hC.l5) (by omega) (by omega) (fun r17 => ?_)
        try simp only [up_app, Nat.reduceEqDiff, Nat.reduceEqDiff, Int.reduceEq, and_true, true_and, and_false, false_and, if_true, if_false, reduceIte] at r17 ⊢
        refine f_iastore hZ dX7_image_18 (by first | rfl | exact hC.t1 | exact hC.t2 | exact hC.t3 | exact hC.t4 | exact hC.t5) (by first | rfl | exact hC.l1 | exact hC.l2 | exact hC.l3 | exact hC.l4 | exact hC.l5) (by omega) (by omega) (by omega) ?_
        refine f_aload_n hZ dX7_image_19 rfl ?_
        refine gX7_84 hZ dX7_image_20 ?_
        refine f_iconst hZ dX7_image_23 ?_
        refine f_iload_n hZ dX7_image_24 rfl ?_
        refine f_iadd hZ dX7_image_25 ?_
        refine f_aload_n hZ dX7_image_26 rfl ?_
        refine gX7_32 hZ dX7_image_27 ?_
        refine f_iload_n hZ dX7_image_30 rfl ?_
        refine f_iaload hZ dX7_image_31 (by first | rfl | exact hC.t1 | exact hC.t2 | exact hC.t3 | exact hC.t4 | exact hC.t5) (by first | rfl | exact hC.l1 | exact hC.l2 | exact hC.l3 | exact hC.l4 | exact hC.l5) (by omega) (by omega) (fun r31 => ?_)
        try simp only [up_app, Nat.reduceEqDiff, Nat.reduceEqDiff, Int.reduceEq, and_true, true_and, and_false, false_and, if_true, if_false, reduceIte] at r31 ⊢
        refine f_iastore hZ dX7_image_32 (by first | rfl | exact hC.t1 | exact hC.t2 | exact hC.t3 | exact hC.t4 | exact hC.t5) (by first | rfl | exact hC.l1 | exact hC.l2 | exact hC.l3 | exact hC.l4 | exact hC.l5) (by omega) (by omega) (by omega) ?_
        refine f_aload_n hZ dX7_image_33 rfl ?_
        refine gX7_84 hZ dX7_image_34 ?_
        refine f_bipush hZ dX7_image_37 ?_
        refine f_iload_n hZ dX7_image_39 rfl ?_
        refine f_iadd hZ dX7_image_40 ?_
        refine f_aload_n hZ dX7_image_41 rfl ?_
        refine gX7_35 hZ dX7_image_42 ?_
        refine f_iload_n hZ dX7_image_45 rfl ?_
        refine f_iaload hZ dX7_image_46 (by first | rfl | exact hC.t1 | exact hC.t2 | exact hC.t3 | exact hC.t4 | exact hC.t5) (by first | rfl | exact hC.l1 | exact hC.l2 | exact hC.l3 | exact hC.l4 | exact hC.l5) (by omega) (by omega) (fun r46 => ?_)
        try simp only [up_app, Nat.reduceEqDiff, Nat.reduceEqDiff, Int.reduceEq, and_true, true_and, and_false, false_and, if_true, if_false, reduceIte] at r46 ⊢
        refine f_iastore hZ dX7_image_47 (by first | rfl | exact hC.t1 | exact hC.t2 | exact hC.t3 | exact hC.t4 | exact hC.t5) (by first | rfl | exact hC.l1 | exact hC.l2 | exact hC.l3 | exact hC.l4 | exact hC.l5) (by omega) (by omega) (by omega) ?_
        refine f_aload_n hZ dX7_image_48 rfl ?_
        refine gX7_84 hZ dX7_image_49 ?_
        refine f_bipush hZ dX7_image_52 ?_
        refine f_iload_n hZ dX7_image_54 rfl ?_
        refine f_iadd hZ dX7_image_55 ?_
        refine f_aload_n hZ dX7_image_56 rfl ?_
        refine gX7_26 hZ dX7_image_57 ?_
        refine f_iload_n hZ dX7_image_60 rfl ?_
        refine f_iaload hZ dX7_image_61 (by first | rfl | exact hC.t1 | exact hC.t2 | exact hC.t3 | exact hC.t4 | exact hC.t5) (by first | rfl | exact hC.l1 | exact hC.l2 | exact hC.l3 | exact hC.l4 | exact hC.l5) (by omega) (by omega) (fun r61 => ?_)
        try simp only [up_app, Nat.reduceEqDiff, Nat.reduceEqDiff, Int.reduceEq, and_true, true_and, and_false, false_and, if_true, if_false, reduceIte] at r61 ⊢
        refine f_iastore hZ dX7_image_62 (by first | rfl | exact hC.t1 | exact hC.t2 | exact hC.t3 | exact hC.t4 | exact hC.t5) (by first | rfl | exact hC.l1 | exact hC.l2 | exact hC.l3 | exact hC.l4 | exact hC.l5) (by omega) (by omega) (by omega) ?_
        refine f_iinc (L' := [_, _]) hZ dX7_image_63 rfl rfl ?_
        refine f_goto (tgt := 2) hZ dX7_image_66 rfl ?_
        refine f_iload_n hZ dX7_image_2 rfl ?_
        refine f_iconst hZ dX7_image_3 ?_
        refine f_ige (tgt := 69) hZ dX7_image_4 rfl (by omega) (by omega) (fun h4 => ?_) (fun h4 => ?_)
        · exfalso; omega
        · refine f_aload_n hZ dX7_image_7 rfl ?_
          refine gX7_84 hZ dX7_image_8 ?_
          refine f_iload_n hZ dX7_image_11 rfl ?_
          refine f_aload_n hZ dX7_image_12 rfl ?_
          refine gX7_29 hZ dX7_image_13 ?_
          refine f_iload_n hZ dX7_image_16 rfl ?_
          refine f_iaload hZ dX7_image_17 (by first | rfl | exact hC.t1 | exact hC.t2 | exact hC.t3 | exact hC.t4 | exact hC.t5) (by first | rfl | exact hC.l1 | exact hC.l2 | exact hC.l3 | exact hC.l4 | exact hC.l5) (by omega) (by omega) (fun r17 => ?_)
          try simp only [up_app, Nat.reduceEqDiff, Nat.reduceEqDiff, Int.reduceEq, and_true, true_and, and_false, false_and, if_true, if_false, reduceIte] at r17 ⊢
          refine f_iastore hZ dX7_image_18 (by first | rfl | exact hC.t1 | exact hC.t2 | exact hC.t3 | exact hC.t4 | exact hC.t5) (by first | rfl | exact hC.l1 | exact hC.l2 | exact hC.l3 | exact hC.l4 | exact hC.l5) (by omega) (by omega) (by omega) ?_
          refine f_aload_n hZ dX7_image_19 rfl ?_
          refine gX7_84 hZ dX7_image_20 ?_
          refine f_iconst hZ dX7_image_23 ?_
          refine f_iload_n hZ dX7_image_24 rfl ?_
          refine f_iadd hZ dX7_image_25 ?_
          refine f_aload_n hZ dX7_image_26 rfl ?_
          refine gX7_32 hZ dX7_image_27 ?_
          refine f_iload_n hZ dX7_image_30 rfl ?_
          refine f_iaload hZ dX7_image_31 (by first | rfl | exact hC.t1 | exact hC.t2 | exact hC.t3 | exact hC.t4 | exact hC.t5) (by first | rfl | exact hC.l1 | exact hC.l2 | exact hC.l3 | exact hC.l4 | exact hC.l5) (by omega) (by omega) (fun r31 => ?_)
          try simp only [up_app, Nat.reduceEqDiff, Nat.reduceEqDiff, Int.reduceEq, and_true, true_and, and_false, false_and, if_true, if_false, reduceIte] at r31 ⊢
          refine f_iastore hZ dX7_image_32 (by first | rfl | exact hC.t1 | exact hC.t2 | exact hC.t3 | exact hC.t4 | exact hC.t5) (by first | rfl | exact hC.l1 | exact hC.l2 | exact hC.l3 | exact hC.l4 | exact hC.l5) (by omega) (by omega) (by omega) ?_
          refine f_aload_n hZ dX7_image_33 rfl ?_
          refine gX7_84 hZ dX7_image_34 ?_
          refine f_bipush hZ dX7_image_37 ?_
          refine f_iload_n hZ dX7_image_39 rfl ?_
          refine f_iadd hZ dX7_image_40 ?_
          refine f_aload_n hZ dX7_image_41 rfl ?_
          refine gX7_35 hZ dX7_image_42 ?_
          refine f_iload_n hZ dX7_image_45 rfl ?_
          refine f_iaload hZ dX7_image_46 (by first | rfl | exact hC.t1 | exact hC.t2 | exact hC.t3 | exact hC.t4 | exact hC.t5) (by first | rfl | exact hC.l1 | exact hC.l2 | exact hC.l3 | exact hC.l4 | exact hC.l5) (by omega) (by omega) (fun r46 => ?_)
          try simp only [up_app, Nat.reduceEqDiff, Nat.reduceEqDiff, Int.reduceEq, and_true, true_and, and_false, false_and, if_true, if_false, reduceIte] at r46 ⊢
          refine f_iastore hZ dX7_image_47 (by first | rfl | exact hC.t1 | exact hC.t2 | exact hC.t3 | exact hC.t4 | exact hC.t5) (by first | rfl | exact hC.l1 | exact hC.l2 | exact hC.l3 | exact hC.l4 | exact hC.l5) (by omega) (by omega) (by omega) ?_
          refine f_aload_n hZ dX7_image_48 rfl ?_
          refine gX7_84 hZ dX7_image_49 ?_
          refine f_bipush hZ dX7_image_52 ?_
          refine f_iload_n hZ dX7_image_54 rfl ?_
          refine f_iadd hZ dX7_image_55 ?_
          refine f_aload_n hZ dX7_image_56 rfl ?_
          refine gX7_26 hZ dX7_image_57 ?_
          refine f_iload_n hZ dX7_image_60 rfl ?_
          refine f_iaload hZ dX7_image_61 (by first | rfl | exact hC.t1 | exact hC.t2 | exact hC.t3 | exact hC.t4 | exact hC.t5) (by first | rfl | exact hC.l1 | exact hC.l2 | exact hC.l3 | exact hC.l4 | exact hC.l5) (by omega) (by omega) (fun r61 => ?_)
          try simp only [up_app, Nat.reduceEqDiff, Nat.reduceEqDiff, Int.reduceEq, and_true, true_and, and_false, false_and, if_true, if_false, reduceIte] at r61 ⊢
          refine f_iastore hZ dX7_image_62 (by first | rfl | exact hC.t1 | exact hC.t2 | exact hC.t3 | exact hC.t4 | exact hC.t5) (by first | rfl | exact hC.l1 | exact hC.l2 | exact hC.l3 | exact hC.l4 | exact hC.l5) (by omega) (by omega) (by omega) ?_
          refine f_iinc (L' := [_, _]) hZ dX7_image_63 rfl rfl ?_
          refine f_goto (tgt := 2) hZ dX7_image_66 rfl ?_
          refine f_iload_n hZ dX7_image_2 rfl ?_
          refine f_iconst hZ dX7_image_3 ?_
          refine f_ige (tgt := 69) hZ dX7_image_4 rfl (by omega) (by omega) (fun h4 => ?_) (fun h4 => ?_)
          · refine f_aload_n hZ dX7_image_69 rfl ?_
            refine f_aload_n hZ dX7_image_70 rfl ?_
            refine gX7_110 hZ dX7_image_71 (fun r71 => ?_)
            try simp only [up_app, Nat.reduceEqDiff, Nat.reduceEqDiff, Int.reduceEq, and_true, true_and, and_false, false_and, if_true, if_false, reduceIte] at r71 ⊢
            refine pX7_87 hZ dX7_image_74 (by omega) ?_
            refine f_aload_n hZ dX7_image_77 rfl ?_
            refine f_aload_n hZ dX7_image_78 rfl ?_
            refine gX7_133 hZ dX7_image_79 (fun r79 => ?_)
            try simp only [up_app, Nat.reduceEqDiff, Nat.reduceEqDiff, Int.reduceEq, and_true, true_and, and_false, false_and, if_true, if_false, reduceIte] at r79 ⊢
            refine pX7_361 hZ dX7_image_82 (by omega) ?_
            refine f_aload_n hZ dX7_image_85 rfl ?_
            refine f_aload_n hZ dX7_image_86 rfl ?_
            refine gX7_136 hZ dX7_image_87 (fun r87 => ?_)
            try simp only [up_app, Nat.reduceEqDiff, Nat.reduceEqDiff, Int.reduceEq, and_true, true_and, and_false, false_and, if_true, if_false, reduceIte] at r87 ⊢
            refine pX7_364 hZ dX7_image_90 (by omega) ?_
            refine f_aload_n hZ dX7_image_93 rfl ?_
            refine f_aload_n hZ dX7_image_94 rfl ?_
            refine gX7_269 hZ dX7_image_95 (fun r95 => ?_)
            try simp only [up_app, Nat.reduceEqDiff, Nat.reduceEqDiff, Int.reduceEq, and_true, true_and, and_false, false_and, if_true, if_false, reduceIte] at r95 ⊢
            refine pX7_367 hZ dX7_image_98 (by omega) ?_
            refine f_aload_n hZ dX7_image_101 rfl ?_
            refine gX7_110 hZ dX7_image_102 (fun r102 => ?_)
            try simp only [up_app, Nat.reduceEqDiff, Nat.reduceEqDiff, Int.reduceEq, and_true, true_and, and_false, false_and, if_true, if_false, reduceIte] at r102 ⊢
            exact f_retI hZ hR dX7_image_105 rfl (by omega) (by exact ⟨rfl, rfl⟩)
          · exfalso; omega

set_option maxRecDepth 20000 in
set_option maxHeartbeats 4000000 in
theorem t_X7_back {X : fX} {M : fM} {d : Nat} : fC X d mX7_back [.ref (xa X 59)] M (QI fun r M' => (M 59 53 = -1 ∧ r = -3 ∧ M' = M) ∨ (M 59 53 ≠ -1 ∧ r = M 59 53 ∧ M' = bckM M)) := by
  refine fC.of (L := [_, _]) (by decide +kernel) rfl (Nat.le_of_ble_eq_true rfl) (fun Z hZ hR => ?_)
  refine f_aload_n hZ dX7_back_0 rfl ?_
  refine gX7_87 hZ dX7_back_1 (fun r1 => ?_)
  refine f_iconst hZ dX7_back_4 ?_
  refine f_ine (tgt := 11) hZ dX7_back_5 rfl (by omega) (by omega) (fun h5 => ?_) (fun h5 => ?_)
  · refine f_iconst hZ dX7_back_11 ?_
    refine f_istore_n (L' := [_, _]) hZ dX7_back_12 rfl rfl ?_
    refine f_iload_n hZ dX7_back_13 rfl ?_
    refine f_iconst hZ dX7_back_14 ?_
    refine f_ige (tgt := 80) hZ dX7_back_15 rfl (by omega) (by omega) (fun h15 => ?_) (fun h15 => ?_)
    · exfalso; omega
    · refine f_aload_n hZ dX7_back_18 rfl ?_
      refine gX7_29 hZ dX7_back_19 ?_
      refine f_iload_n hZ dX7_back_22 rfl ?_
      refine f_aload_n hZ dX7_back_23 rfl ?_
      refine gX7_84 hZ dX7_back_24 ?_
      refine f_iload_n hZ dX7_back_27 rfl ?_
      refine f_iaload hZ dX7_back_28 (by first | rfl | exact hC.t1 | exact hC.t2 | exact hC.t3 | exact hC.t4 | exact hC.t5) (by first | rfl | exact hC.l1 | exact hC.l2 | exact hC.l3 | exact hC.l4 | exact hC.l5) (by omega) (by omega) (fun r28 => ?_)
      refine f_iastore hZ dX7_back_29 (by first | rfl | exact hC.t1 | exact hC.t2 | exact hC.t3 | exact hC.t4 | exact hC.t5) (by first | rfl | exact hC.l1 | exact hC.l2 | exact hC.l3 | exact hC.l4 | exact hC.l5) (by omega) (by omega) (by omega) ?_
      refine f_aload_n hZ dX7_back_30 rfl ?_
      refine gX7_32 hZ dX7_back_31 ?_
      refine f_iload_n hZ dX7_back_34 rfl ?_
      refine f_aload_n hZ dX7_back_35 rfl ?_
      refine gX7_84 hZ dX7_back_36 ?_
      refine f_iconst hZ dX7_back_39 ?_
      refine f_iload_n hZ dX7_back_40 rfl ?_
      refine f_iadd hZ dX7_back_41 ?_
      refine f_iaload hZ dX7_back_42 (by first | rfl | exact hC.t1 | exact hC.t2 | exact hC.t3 | exact hC.t4 | exact hC.t5) (by first | rfl | exact hC.l1 | exact hC.l2 | exact hC.l3 | exact hC.l4 | exact hC.l5) (by omega) (by omega) (fun r42 => ?_)
      try simp only [up_app, Nat.reduceEqDiff, Nat.reduceEqDiff, Int.reduceEq, and_true, true_and, and_false, false_and, if_true, if_false, reduceIte] at r42 ⊢
      refine f_iastore hZ dX7_back_43 (by first | rfl | exact hC.t1 | exact hC.t2 | exact hC.t3 | exact hC.t4 | exact hC.t5) (by first | rfl | exact hC.l1 | exact hC.l2 | exact hC.l3 | exact hC.l4 | exact hC.l5) (by omega) (by omega) (by omega) ?_
      refine f_aload_n hZ dX7_back_44 rfl ?_
      refine gX7_35 hZ dX7_back_45 ?_
      refine f_iload_n hZ dX7_back_48 rfl ?_
      refine f_aload_n hZ dX7_back_49 rfl ?_
      refine gX7_84 hZ dX7_back_50 ?_
      refine f_bipush hZ dX7_back_53 ?_
      refine f_iload_n hZ dX7_back_55 rfl ?_
      refine f_iadd hZ dX7_back_56 ?_
      refine f_iaload hZ dX7_back_57 (by first | rfl | exact hC.t1 | exact hC.t2 | exact hC.t3 | exact hC.t4 | exact hC.t5) (by first | rfl | exact hC.l1 | exact hC.l2 | exact hC.l3 | exact hC.l4 | exact hC.l5) (by omega) (by omega) (fun r57 => ?_)
      try simp only [up_app, Nat.reduceEqDiff, Nat.reduceEqDiff, Int.reduceEq, and_true, true_and, and_false, false_and, if_true, if_false, reduceIte] at r57 ⊢
      refine f_iastore hZ dX7_back_58 (by first | rfl | exact hC.t1 | exact hC.t2 | exact hC.t3 | exact hC.t4 | exact hC.t5) (by first | rfl | exact hC.l1 | exact hC.l2 | exact hC.l3 | exact hC.l4 | exact hC.l5) (by omega) (by omega) (by omega) ?_
      refine f_aload_n hZ dX7_back_59 rfl ?_
      refine gX7_26 hZ dX7_back_60 ?_
      refine f_iload_n hZ dX7_back_63 rfl ?_
      refine f_aload_n hZ dX7_back_64 rfl ?_
      refine gX7_84 hZ dX7_back_65 ?_
      refine f_bipush hZ dX7_back_68 ?_
      refine f_iload_n hZ dX7_back_70 rfl ?_
      refine f_iadd hZ dX7_back_71 ?_
      refine f_iaload hZ dX7_back_72 (by first | rfl | exact hC.t1 | exact hC.t2 | exact hC.t3 | exact hC.t4 | exact hC.t5) (by first | rfl | exact hC.l1 | exact hC.l2 | exact hC.l3 | exact hC.l4 | exact hC.l5) (by omega) (by omega) (fun r72 => ?_)
      try simp only [up_app, Nat.reduceEqDiff, Nat.reduceEqDiff, Int.reduceEq, and_true, true_and, and_false, false_and, if_true, if_false, reduceIte] at r72 ⊢
      refine f_iastore hZ dX7_back_73 (by first | rfl | exact hC.t1 | exact hC.t2 | exact hC.t3 | exact hC.t4 | exact hC.t5) (by first | rfl | exact hC.l1 | exact hC.l2 | exact hC.l3 | exact hC.l4 | exact hC.l5) (by omega) (by omega) (by omega) ?_
      refine f_iinc (L' := [_, _]) hZ dX7_back_74 rfl rfl ?_
      refine f_goto (tgt := 13) hZ dX7_back_77 rfl ?_
      refine f_iload_n hZ dX7_back_13 rfl ?_
      refine f_iconst hZ dX7_back_14 ?_
      refine f_ige (tgt := 80) hZ dX7_back_15 rfl (by omega) (by omega) (fun h15 => ?_) (fun h15 => ?_)
      · exfalso; omega
      · refine f_aload_n hZ dX7_back_18 rfl ?_
        refine gX7_29 hZ dX7_back_19 ?_
        refine f_iload_n hZ dX7_back_22 rfl ?_
        refine f_aload_n hZ dX7_back_23 rfl ?_
        refine gX7_84 hZ dX7_back_24 ?_
        refine f_iload_n hZ dX7_back_27 rfl ?_
        refine f_iaload hZ dX7_back_28 (by first | rfl | exact hC.t1 | exact hC.t2 | exact hC.t3 | exact hC.t4 | exact hC.t5) (by first | rfl | exact hC.l1 | exact hC.l2 | exact hC.l3 | exact hC.l4 | exact hC.l5) (by omega) (by omega) (fun r28 => ?_)
        try simp only [up_app, Nat.reduceEqDiff, Nat.reduceEqDiff, Int.reduceEq, and_true, true_and, and_false, false_and, if_true, if_false, reduceIte] at r28 ⊢
        refine f_iastore hZ dX7_back_29 (by first | rfl | exact hC.t1 | exact hC.t2 | exact hC.t3 | exact hC.t4 | exact hC.t5) (by first | rfl | exact hC.l1 | exact hC.l2 | exact hC.l3 | exact hC.l4 | exact hC.l5) (by omega) (by omega) (by omega) ?_
        refine f_aload_n hZ dX7_back_30 rfl ?_
        refine gX7_32 hZ dX7_back_31 ?_
        refine f_iload_n hZ dX7_back_34 rfl ?_
        refine f_aload_n hZ dX7_back_35 rfl ?_
        refine gX7_84 hZ dX7_back_36 ?_
        refine f_iconst hZ dX7_back_39 ?_
        refine f_iload_n hZ dX7_back_40 rfl ?_
        refine f_iadd hZ dX7_back_41 ?_
        refine f_iaload hZ dX7_back_42 (by first | rfl | exact hC.t1 | exact hC.t2 | exact hC.t3 | exact hC.t4 | exact hC.t5) (by first | rfl | exact hC.l1 | exact hC.l2 | exact hC.l3 | exact hC.l4 | exact hC.l5) (by omega) (by omega) (fun r42 => ?_)
        try simp only [up_app, Nat.reduceEqDiff, Nat.reduceEqDiff, Int.reduceEq, and_true, true_and, and_false, false_and, if_true, if_false, reduceIte] at r42 ⊢
        refine f_iastore hZ dX7_back_43 (by first | rfl | exact hC.t1 | exact hC.t2 | exact hC.t3 | exact hC.t4 | exact hC.t5) (by first | rfl | exact hC.l1 | exact hC.l2 | exact hC.l3 | exact hC.l4 | exact hC.l5) (by omega) (by omega) (by omega) ?_
        refine f_aload_n hZ dX7_back_44 rfl ?_
        refine gX7_35 hZ dX7_back_45 ?_
        refine f_iload_n hZ dX7_back_48 rfl ?_
        refine f_aload_n hZ dX7_back_49 rfl ?_
        refine gX7_84 hZ dX7_back_50 ?_
        refine f_bipush hZ dX7_back_53 ?_
        refine f_iload_n hZ dX7_back_55 rfl ?_
        refine f_iadd hZ dX7_back_56 ?_
        refine f_iaload hZ dX7_back_57 (by first | rfl | exact hC.t1 | exact hC.t2 | exact hC.t3 | exact hC.t4 | exact hC.t5) (by first | rfl | exact hC.l1 | exact hC.l2 | exact hC.l3 | exact hC.l4 | exact hC.l5) (by omega) (by omega) (fun r57 => ?_)
        try simp only [up_app, Nat.reduceEqDiff, Nat.reduceEqDiff, Int.reduceEq, and_true, true_and, and_false, false_and, if_true, if_false, reduceIte] at r57 ⊢
        refine f_iastore hZ dX7_back_58 (by first | rfl | exact hC.t1 | exact hC.t2 | exact hC.t3 | exact hC.t4 | exact hC.t5) (by first | rfl | exact hC.l1 | exact hC.l2 | exact hC.l3 | exact hC.l4 | exact hC.l5) (by omega) (by omega) (by omega) ?_
        refine f_aload_n hZ dX7_back_59 rfl ?_
        refine gX7_26 hZ dX7_back_60 ?_
        refine f_iload_n hZ dX7_back_63 rfl ?_
        refine f_aload_n hZ dX7_back_64 rfl ?_
        refine gX7_84 hZ dX7_back_65 ?_
        refine f_bipush hZ dX7_back_68 ?_
        refine f_iload_n hZ dX7_back_70 rfl ?_
        refine f_iadd hZ dX7_back_71 ?_
        refine f_iaload hZ dX7_back_72 (by first | rfl | exact hC.t1 | exact hC.t2 | exact hC.t3 | exact hC.t4 | exact hC.t5) (by first | rfl | exact hC.l1 | exact hC.l2 | exact hC.l3 | exact hC.l4 | exact hC.l5) (by omega) (by omega) (fun r72 => ?_)
        try simp only [up_app, Nat.reduceEqDiff, Nat.reduceEqDiff, Int.reduceEq, and_true, true_and, and_false, false_and, if_true, if_false, reduceIte] at r72 ⊢
        refine f_iastore hZ dX7_back_73 (by first | rfl | exact hC.t1 | exact hC.t2 | exact hC.t3 | exact hC.t4 | exact hC.t5) (by first | rfl | exact hC.l1 | exact hC.l2 | exact hC.l3 | exact hC.l4 | exact hC.l5) (by omega) (by omega) (by omega) ?_
        refine f_iinc (L' := [_, _]) hZ dX7_back_74 rfl rfl ?_
        refine f_goto (tgt := 13) hZ dX7_back_77 rfl ?_
        refine f_iload_n hZ dX7_back_13 rfl ?_
        refine f_iconst hZ dX7_back_14 ?_
        refine f_ige (tgt := 80) hZ dX7_back_15 rfl (by omega) (by omega) (fun h15 => ?_) (fun h15 => ?_)
        · exfalso; omega
        · refine f_aload_n hZ dX7_back_18 rfl ?_
          refine gX7_29 hZ dX7_back_19 ?_
          refine f_iload_n hZ dX7_back_22 rfl ?_
          refine f_aload_n hZ dX7_back_23 rfl ?_
          refine gX7_84 hZ dX7_back_24 ?_
          refine f_iload_n hZ dX7_back_27 rfl ?_
          refine f_iaload hZ dX7_back_28 (by first | rfl | exact hC.t1 | exact hC.t2 | exact hC.t3 | exact hC.t4 | exact hC.t5) (by first | rfl | exact hC.l1 | exact hC.l2 | exact hC.l3 | exact hC.l4 | exact hC.l5) (by omega) (by omega) (fun r28 => ?_)
          try simp only [up_app, Nat.reduceEqDiff, Nat.reduceEqDiff, Int.reduceEq, and_true, true_and, and_false, false_and, if_true, if_false, reduceIte] at r28 ⊢
          refine f_iastore hZ dX7_back_29 (by first | rfl | exact hC.t1 | exact hC.t2 | exact hC.t3 | exact hC.t4 | exact hC.t5) (by first | rfl | exact hC.l1 | exact hC.l2 | exact hC.l3 | exact hC.l4 | exact hC.l5) (by omega) (by omega) (by omega) ?_
          refine f_aload_n hZ dX7_back_30 rfl ?_
          refine gX7_32 hZ dX7_back_31 ?_
          refine f_iload_n hZ dX7_back_34 rfl ?_
          refine f_aload_n hZ dX7_back_35 rfl ?_
          refine gX7_84 hZ dX7_back_36 ?_
          refine f_iconst hZ dX7_back_39 ?_
          refine f_iload_n hZ dX7_back_40 rfl ?_
          refine f_iadd hZ dX7_back_41 ?_
          refine f_iaload hZ dX7_back_42 (by first | rfl | exact hC.t1 | exact hC.t2 | exact hC.t3 | exact hC.t4 | exact hC.t5) (by first | rfl | exact hC.l1 | exact hC.l2 | exact hC.l3 | exact hC.l4 | exact hC.l5) (by omega) (by omega) (fun r42 => ?_)
          try simp only [up_app, Nat.reduceEqDiff, Nat.reduceEqDiff, Int.reduceEq, and_true, true_and, and_false, false_and, if_true, if_false, reduceIte] at r42 ⊢
          refine f_iastore hZ dX7_back_43 (by first | rfl | exact hC.t1 | exact hC.t2 | exact hC.t3 | exact hC.t4 | exact hC.t5) (by first | rfl | exact hC.l1 | exact hC.l2 | exact hC.l3 | exact hC.l4 | exact hC.l5) (by omega) (by omega) (by omega) ?_
          refine f_aload_n hZ dX7_back_44 rfl ?_
          refine gX7_35 hZ dX7_back_45 ?_
          refine f_iload_n hZ dX7_back_48 rfl ?_
          refine f_aload_n hZ dX7_back_49 rfl ?_
          refine gX7_84 hZ dX7_back_50 ?_
          refine f_bipush hZ dX7_back_53 ?_
          refine f_iload_n hZ dX7_back_55 rfl ?_
          refine f_iadd hZ dX7_back_56 ?_
          refine f_iaload hZ dX7_back_57 (by first | rfl | exact hC.t1 | exact hC.t2 | exact hC.t3 | exact hC.t4 | exact hC.t5) (by first | rfl | exact hC.l1 | exact hC.l2 | exact hC.l3 | exact hC.l4 | exact hC.l5) (by omega) (by omega) (fun r57 => ?_)
          try simp only [up_app, Nat.reduceEqDiff, Nat.reduceEqDiff, Int.reduceEq, and_true, true_and, and_false, false_and, if_true, if_false, reduceIte] at r57 ⊢
          refine f_iastore hZ dX7_back_58 (by first | rfl | exact hC.t1 | exact hC.t2 | exact hC.t3 | exact hC.t4 | exact hC.t5) (by first | rfl | exact hC.l1 | exact hC.l2 | exact hC.l3 | exact hC.l4 | exact hC.l5) (by omega) (by omega) (by omega) ?_
          refine f_aload_n hZ dX7_back_59 rfl ?_
          refine gX7_26 hZ dX7_back_60 ?_
          refine f_iload_n hZ dX7_back_63 rfl ?_
          refine f_aload_n hZ dX7_back_64 rfl ?_
          refine gX7_84 hZ dX7_back_65 ?_
          refine f_bipush hZ dX7_back_68 ?_
          refine f_iload_n hZ dX7_back_70 rfl ?_
          refine f_iadd hZ dX7_back_71 ?_
          refine f_iaload hZ dX7_back_72 (by first | rfl | exact hC.t1 | exact hC.t2 | exact hC.t3 | exact hC.t4 | exact hC.t5) (by first | rfl | exact hC.l1 | exact hC.l2 | exact hC.l3 | exact hC.l4 | exact hC.l5) (by omega) (by omega) (fun r72 => ?_)
          try simp only [up_app, Nat.reduceEqDiff, Nat.reduceEqDiff, Int.reduceEq, and_true, true_and, and_false, false_and, if_true, if_false, reduceIte] at r72 ⊢
          refine f_iastore hZ dX7_back_73 (by first | rfl | exact hC.t1 | exact hC.t2 | exact hC.t3 | exact hC.t4 | exact hC.t5) (by first | rfl | exact hC.l1 | exact hC.l2 | exact hC.l3 | exact hC.l4 | exact hC.l5) (by omega) (by omega) (by omega) ?_
          refine f_iinc (L' := [_, _]) hZ dX7_back_74 rfl rfl ?_
          refine f_goto (tgt := 13) hZ dX7_back_77 rfl ?_
          refine f_iload_n hZ dX7_back_13 rfl ?_
          refine f_iconst hZ dX7_back_14 ?_
          refine f_ige (tgt := 80) hZ dX7_back_15 rfl (by omega) (by omega) (fun h15 => ?_) (fun h15 => ?_)
          · exfalso; omega
          · refine f_aload_n hZ dX7_back_18 rfl ?_
            refine gX7_29 hZ dX7_back_19 ?_
            refine f_iload_n hZ dX7_back_22 rfl ?_
            refine f_aload_n hZ dX7_back_23 rfl ?_
            refine gX7_84 hZ dX7_back_24 ?_
            refine f_iload_n hZ dX7_back_27 rfl ?_
            refine f_iaload hZ dX7_back_28 (by first | rfl | exact hC.t1 | exact hC.t2 | exact hC.t3 | exact hC.t4 | exact hC.t5) (by first | rfl | exact hC.l1 | exact hC.l2 | exact hC.l3 | exact hC.l4 | exact hC.l5) (by omega) (by omega) (fun r28 => ?_)
            try simp only [up_app, Nat.reduceEqDiff, Nat.reduceEqDiff, Int.reduceEq, and_true, true_and, and_false, false_and, if_true, if_false, reduceIte] at r28 ⊢
            refine f_iastore hZ dX7_back_29 (by first | rfl | exact hC.t1 | exact hC.t2 | exact hC.t3 | exact hC.t4 | exact hC.t5) (by first | rfl | exact hC.l1 | exact hC.l2 | exact hC.l3 | exact hC.l4 | exact hC.l5) (by omega) (by omega) (by omega) ?_
            refine f_aload_n hZ dX7_back_30 rfl ?_
            refine gX7_32 hZ dX7_back_31 ?_
            refine f_iload_n hZ dX7_back_34 rfl ?_
            refine f_aload_n hZ dX7_back_35 rfl ?_
            refine gX7_84 hZ dX7_back_36 ?_
            refine f_iconst hZ dX7_back_39 ?_
            refine f_iload_n hZ dX7_back_40 rfl ?_
            refine f_iadd hZ dX7_back_41 ?_
            refine f_iaload hZ dX7_back_42 (by first | rfl | exact hC.t1 | exact hC.t2 | exact hC.t3 | exact hC.t4 | exact hC.t5) (by first | rfl | exact hC.l1 | exact hC.l2 | exact hC.l3 | exact hC.l4 | exact hC.l5) (by omega) (by omega) (fun r42 => ?_)
            try simp only [up_app, Nat.reduceEqDiff, Nat.reduceEqDiff, Int.reduceEq, and_true, true_and, and_false, false_and, if_true, if_false, reduceIte] at r42 ⊢
            refine f_iastore hZ dX7_back_43 (by first | rfl | exact hC.t1 | exact hC.t2 | exact hC.t3 | exact hC.t4 | exact hC.t5) (by first | rfl | exact hC.l1 | exact hC.l2 | exact hC.l3 | exact hC.l4 | exact hC.l5) (by omega) (by omega) (by omega) ?_
            refine f_aload_n hZ dX7_back_44 rfl ?_
            refine gX7_35 hZ dX7_back_45 ?_
            refine f_iload_n hZ dX7_back_48 rfl ?_
            refine f_aload_n hZ dX7_back_49 rfl ?_
            refine gX7_84 hZ dX7_back_50 ?_
            refine f_bipush hZ dX7_back_53 ?_
            refine f_iload_n hZ dX7_back_55 rfl ?_
            refine f_iadd hZ dX7_back_56 ?_
            refine f_iaload hZ dX7_back_57 (by first | rfl | exact hC.t1 | exact hC.t2 | exact hC.t3 | exact hC.t4 | exact hC.t5) (by first | rfl | exact hC.l1 | exact hC.l2 | exact hC.l3 | exact hC.l4 | exact hC.l5) (by omega) (by omega) (fun r57 => ?_)
            try simp only [up_app, Nat.reduceEqDiff, Nat.reduceEqDiff, Int.reduceEq, and_true, true_and, and_false, false_and, if_true, if_false, reduceIte] at r57 ⊢
            refine f_iastore hZ dX7_back_58 (by first | rfl | exact hC.t1 | exact hC.t2 | exact hC.t3 | exact hC.t4 | exact hC.t5) (by first | rfl | exact hC.l1 | exact hC.l2 | exact hC.l3 | exact hC.l4 | exact hC.l5) (by omega) (by omega) (by omega) ?_
            refine f_aload_n hZ dX7_back_59 rfl ?_
            refine gX7_26 hZ dX7_back_60 ?_
            refine f_iload_n hZ dX7_back_63 rfl ?_
            refine f_aload_n hZ dX7_back_64 rfl ?_
            refine gX7_84 hZ dX7_back_65 ?_
            refine f_bipush hZ dX7_back_68 ?_
            refine f_iload_n hZ dX7_back_70 rfl ?_
            refine f_iadd hZ dX7_back_71 ?_
            refine f_iaload hZ dX7_back_72 (by first | rfl | exact hC.t1 | exact hC.t2 | exact hC.t3 | exact hC.t4 | exact hC.t5) (by first | rfl | exact hC.l1 | exact hC.l2 | exact hC.l3 | exact hC.l4 | exact hC.l5) (by omega) (by omega) (fun r72 => ?_)
            try simp only [up_app, Nat.reduceEqDiff, Nat.reduceEqDiff, Int.reduceEq, and_true, true_and, and_false, false_and, if_true, if_false, reduceIte] at r72 ⊢
            refine f_iastore hZ dX7_back_73 (by first | rfl | exact hC.t1 | exact hC.t2 | exact hC.t3 | exact hC.t4 | exact hC.t5) (by first | rfl | exact hC.l1 | exact hC.l2 | exact hC.l3 | exact hC.l4 | exact hC.l5) (by omega) (by omega) (by omega) ?_
            refine f_iinc (L' := [_, _]) hZ dX7_back_74 rfl rfl ?_
            refine f_goto (tgt := 13) hZ dX7_back_77 rfl ?_
            refine f_iload_n hZ dX7_back_13 rfl ?_
            refine f_iconst hZ dX7_back_14 ?_
            refine f_ige (tgt := 80) hZ dX7_back_15 rfl (by omega) (by omega) (fun h15 => ?_) (fun h15 => ?_)
            · refine f_aload_n hZ dX7_back_80 rfl ?_
              refine f_aload_n hZ dX7_back_81 rfl ?_
              refine gX7_87 hZ dX7_back_82 (fun r82 => ?_)
              try simp only [up_app, Nat.reduceEqDiff, Nat.reduceEqDiff, Int.reduceEq, and_true, true_and, and_false, false_and, if_true, if_false, reduceIte] at r82 ⊢
              refine pX7_110 hZ dX7_back_85 (by omega) ?_
              refine f_aload_n hZ dX7_back_88 rfl ?_
              refine f_aload_n hZ dX7_back_89 rfl ?_
              refine gX7_361 hZ dX7_back_90 (fun r90 => ?_)
              try simp only [up_app, Nat.reduceEqDiff, Nat.reduceEqDiff, Int.reduceEq, and_true, true_and, and_false, false_and, if_true, if_false, reduceIte] at r90 ⊢
              refine pX7_133 hZ dX7_back_93 (by omega) ?_
              refine f_aload_n hZ dX7_back_96 rfl ?_
              refine f_aload_n hZ dX7_back_97 rfl ?_
              refine gX7_364 hZ dX7_back_98 (fun r98 => ?_)
              try simp only [up_app, Nat.reduceEqDiff, Nat.reduceEqDiff, Int.reduceEq, and_true, true_and, and_false, false_and, if_true, if_false, reduceIte] at r98 ⊢
              refine pX7_136 hZ dX7_back_101 (by omega) ?_
              refine f_aload_n hZ dX7_back_104 rfl ?_
              refine f_aload_n hZ dX7_back_105 rfl ?_
              refine gX7_367 hZ dX7_back_106 (fun r106 => ?_)
              try simp only [up_app, Nat.reduceEqDiff, Nat.reduceEqDiff, Int.reduceEq, and_true, true_and, and_false, false_and, if_true, if_false, reduceIte] at r106 ⊢
              refine pX7_269 hZ dX7_back_109 (by omega) ?_
              refine f_aload_n hZ dX7_back_112 rfl ?_
              refine gX7_110 hZ dX7_back_113 (fun r113 => ?_)
              try simp only [up_app, Nat.reduceEqDiff, Nat.reduceEqDiff, Int.reduceEq, and_true, true_and, and_false, false_and, if_true, if_false, reduceIte] at r113 ⊢
              exact f_retI hZ hR dX7_back_116 rfl (by omega) (by first | exact Or.inl ⟨by omega, rfl, rfl⟩ | exact Or.inr ⟨by omega, rfl, rfl⟩)
            · exfalso; omega
  · refine f_bipush hZ dX7_back_8 ?_
    exact f_retI hZ hR dX7_back_10 rfl (by omega) (by first | exact Or.inl ⟨by omega, rfl, rfl⟩ | exact Or.inr ⟨by omega, rfl, rfl⟩)

set_option maxRecDepth 20000 in
set_option maxHeartbeats 4000000 in
theorem t_X7_laysAside {X : fX} {M : fM} {d : Nat} : fC X d mX7_laysAside [.ref (xa X 59)] M (QV fun M' => M' = asideM M) := by
  refine fC.of (L := [_, _]) (by decide +kernel) rfl (Nat.le_of_ble_eq_true rfl) (fun Z hZ hR => ?_)
  refine f_iconst hZ dX7_laysAside_0 ?_
  refine f_istore_n (L' := [_, _]) hZ dX7_laysAside_1 rfl rfl ?_
  refine f_iload_n hZ dX7_laysAside_2 rfl ?_
  refine f_iconst hZ dX7_laysAside_3 ?_
  refine f_ige (tgt := 49) hZ dX7_laysAside_4 rfl (by omega) (by omega) (fun h4 => ?_) (fun h4 => ?_)
  · exfalso; omega
  · refine f_aload_n hZ dX7_laysAside_7 rfl ?_
    refine gX7_75 hZ dX7_laysAside_8 ?_
    refine f_iload_n hZ dX7_laysAside_11 rfl ?_
    refine f_aload_n hZ dX7_laysAside_12 rfl ?_
    refine gX7_29 hZ dX7_laysAside_13 ?_
    refine f_iload_n hZ dX7_laysAside_16 rfl ?_
    refine f_iaload hZ dX7_laysAside_17 (by first | rfl | exact hC.t1 | exact hC.t2 | exact hC.t3 | exact hC.t4 | exact hC.t5) (by first | rfl | exact hC.l1 | exact hC.l2 | exact hC.l3 | exact hC.l4 | exact hC.l5) (by omega) (by omega) (fun r17 => ?_)
    refine f_iastore hZ dX7_laysAside_18 (by first | rfl | exact hC.t1 | exact hC.t2 | exact hC.t3 | exact hC.t4 | exact hC.t5) (by first | rfl | exact hC.l1 | exact hC.l2 | exact hC.l3 | exact hC.l4 | exact hC.l5) (by omega) (by omega) (by omega) ?_
    refine f_aload_n hZ dX7_laysAside_19 rfl ?_
    refine gX7_78 hZ dX7_laysAside_20 ?_
    refine f_iload_n hZ dX7_laysAside_23 rfl ?_
    refine f_aload_n hZ dX7_laysAside_24 rfl ?_
    refine gX7_32 hZ dX7_laysAside_25 ?_
    refine f_iload_n hZ dX7_laysAside_28 rfl ?_
    refine f_iaload hZ dX7_laysAside_29 (by first | rfl | exact hC.t1 | exact hC.t2 | exact hC.t3 | exact hC.t4 | exact hC.t5) (by first | rfl | exact hC.l1 | exact hC.l2 | exact hC.l3 | exact hC.l4 | exact hC.l5) (by omega) (by omega) (fun r29 => ?_)
    try simp only [up_app, Nat.reduceEqDiff, Nat.reduceEqDiff, Int.reduceEq, and_true, true_and, and_false, false_and, if_true, if_false, reduceIte] at r29 ⊢
    refine f_iastore hZ dX7_laysAside_30 (by first | rfl | exact hC.t1 | exact hC.t2 | exact hC.t3 | exact hC.t4 | exact hC.t5) (by first | rfl | exact hC.l1 | exact hC.l2 | exact hC.l3 | exact hC.l4 | exact hC.l5) (by omega) (by omega) (by omega) ?_
    refine f_aload_n hZ dX7_laysAside_31 rfl ?_
    refine gX7_81 hZ dX7_laysAside_32 ?_
    refine f_iload_n hZ dX7_laysAside_35 rfl ?_
    refine f_aload_n hZ dX7_laysAside_36 rfl ?_
    refine gX7_35 hZ dX7_laysAside_37 ?_
    refine f_iload_n hZ dX7_laysAside_40 rfl ?_
    refine f_iaload hZ dX7_laysAside_41 (by first | rfl | exact hC.t1 | exact hC.t2 | exact hC.t3 | exact hC.t4 | exact hC.t5) (by first | rfl | exact hC.l1 | exact hC.l2 | exact hC.l3 | exact hC.l4 | exact hC.l5) (by omega) (by omega) (fun r41 => ?_)
    try simp only [up_app, Nat.reduceEqDiff, Nat.reduceEqDiff, Int.reduceEq, and_true, true_and, and_false, false_and, if_true, if_false, reduceIte] at r41 ⊢
    refine f_iastore hZ dX7_laysAside_42 (by first | rfl | exact hC.t1 | exact hC.t2 | exact hC.t3 | exact hC.t4 | exact hC.t5) (by first | rfl | exact hC.l1 | exact hC.l2 | exact hC.l3 | exact hC.l4 | exact hC.l5) (by omega) (by omega) (by omega) ?_
    refine f_iinc (L' := [_, _]) hZ dX7_laysAside_43 rfl rfl ?_
    refine f_goto (tgt := 2) hZ dX7_laysAside_46 rfl ?_
    refine f_iload_n hZ dX7_laysAside_2 rfl ?_
    refine f_iconst hZ dX7_laysAside_3 ?_
    refine f_ige (tgt := 49) hZ dX7_laysAside_4 rfl (by omega) (by omega) (fun h4 => ?_) (fun h4 => ?_)
    · exfalso; omega
    · refine f_aload_n hZ dX7_laysAside_7 rfl ?_
      refine gX7_75 hZ dX7_laysAside_8 ?_
      refine f_iload_n hZ dX7_laysAside_11 rfl ?_
      refine f_aload_n hZ dX7_laysAside_12 rfl ?_
      refine gX7_29 hZ dX7_laysAside_13 ?_
      refine f_iload_n hZ dX7_laysAside_16 rfl ?_
      refine f_iaload hZ dX7_laysAside_17 (by first | rfl | exact hC.t1 | exact hC.t2 | exact hC.t3 | exact hC.t4 | exact hC.t5) (by first | rfl | exact hC.l1 | exact hC.l2 | exact hC.l3 | exact hC.l4 | exact hC.l5) (by omega) (by omega) (fun r17 => ?_)
      try simp only [up_app, Nat.reduceEqDiff, Nat.reduceEqDiff, Int.reduceEq, and_true, true_and, and_false, false_and, if_true, if_false, reduceIte] at r17 ⊢
      refine f_iastore hZ dX7_laysAside_18 (by first | rfl | exact hC.t1 | exact hC.t2 | exact hC.t3 | exact hC.t4 | exact hC.t5) (by first | rfl | exact hC.l1 | exact hC.l2 | exact hC.l3 | exact hC.l4 | exact hC.l5) (by omega) (by omega) (by omega) ?_
      refine f_aload_n hZ dX7_laysAside_19 rfl ?_
      refine gX7_78 hZ dX7_laysAside_20 ?_
      refine f_iload_n hZ dX7_laysAside_23 rfl ?_
      refine f_aload_n hZ dX7_laysAside_24 rfl ?_
      refine gX7_32 hZ dX7_laysAside_25 ?_
      refine f_iload_n hZ dX7_laysAside_28 rfl ?_
      refine f_iaload hZ dX7_laysAside_29 (by first | rfl | exact hC.t1 | exact hC.t2 | exact hC.t3 | exact hC.t4 | exact hC.t5) (by first | rfl | exact hC.l1 | exact hC.l2 | exact hC.l3 | exact hC.l4 | exact hC.l5) (by omega) (by omega) (fun r29 => ?_)
      try simp only [up_app, Nat.reduceEqDiff, Nat.reduceEqDiff, Int.reduceEq, and_true, true_and, and_false, false_and, if_true, if_false, reduceIte] at r29 ⊢
      refine f_iastore hZ dX7_laysAside_30 (by first | rfl | exact hC.t1 | exact hC.t2 | exact hC.t3 | exact hC.t4 | exact hC.t5) (by first | rfl | exact hC.l1 | exact hC.l2 | exact hC.l3 | exact hC.l4 | exact hC.l5) (by omega) (by omega) (by omega) ?_
      refine f_aload_n hZ dX7_laysAside_31 rfl ?_
      refine gX7_81 hZ dX7_laysAside_32 ?_
      refine f_iload_n hZ dX7_laysAside_35 rfl ?_
      refine f_aload_n hZ dX7_laysAside_36 rfl ?_
      refine gX7_35 hZ dX7_laysAside_37 ?_
      refine f_iload_n hZ dX7_laysAside_40 rfl ?_
      refine f_iaload hZ dX7_laysAside_41 (by first | rfl | exact hC.t1 | exact hC.t2 | exact hC.t3 | exact hC.t4 | exact hC.t5) (by first | rfl | exact hC.l1 | exact hC.l2 | exact hC.l3 | exact hC.l4 | exact hC.l5) (by omega) (by omega) (fun r41 => ?_)
      try simp only [up_app, Nat.reduceEqDiff, Nat.reduceEqDiff, Int.reduceEq, and_true, true_and, and_false, false_and, if_true, if_false, reduceIte] at r41 ⊢
      refine f_iastore hZ dX7_laysAside_42 (by first | rfl | exact hC.t1 | exact hC.t2 | exact hC.t3 | exact hC.t4 | exact hC.t5) (by first | rfl | exact hC.l1 | exact hC.l2 | exact hC.l3 | exact hC.l4 | exact hC.l5) (by omega) (by omega) (by omega) ?_
      refine f_iinc (L' := [_, _]) hZ dX7_laysAside_43 rfl rfl ?_
      refine f_goto (tgt := 2) hZ dX7_laysAside_46 rfl ?_
      refine f_iload_n hZ dX7_laysAside_2 rfl ?_
      refine f_iconst hZ dX7_laysAside_3 ?_
      refine f_ige (tgt := 49) hZ dX7_laysAside_4 rfl (by omega) (by omega) (fun h4 => ?_) (fun h4 => ?_)
      · exfalso; omega
      · refine f_aload_n hZ dX7_laysAside_7 rfl ?_
        refine gX7_75 hZ dX7_laysAside_8 ?_
        refine f_iload_n hZ dX7_laysAside_11 rfl ?_
        refine f_aload_n hZ dX7_laysAside_12 rfl ?_
        refine gX7_29 hZ dX7_laysAside_13 ?_
        refine f_iload_n hZ dX7_laysAside_16 rfl ?_
        refine f_iaload hZ dX7_laysAside_17 (by first | rfl | exact hC.t1 | exact hC.t2 | exact hC.t3 | exact hC.t4 | exact hC.t5) (by first | rfl | exact hC.l1 | exact hC.l2 | exact hC.l3 | exact hC.l4 | exact hC.l5) (by omega) (by omega) (fun r17 => ?_)
        try simp only [up_app, Nat.reduceEqDiff, Nat.reduceEqDiff, Int.reduceEq, and_true, true_and, and_false, false_and, if_true, if_false, reduceIte] at r17 ⊢
        refine f_iastore hZ dX7_laysAside_18 (by first | rfl | exact hC.t1 | exact hC.t2 | exact hC.t3 | exact hC.t4 | exact hC.t5) (by first | rfl | exact hC.l1 | exact hC.l2 | exact hC.l3 | exact hC.l4 | exact hC.l5) (by omega) (by omega) (by omega) ?_
        refine f_aload_n hZ dX7_laysAside_19 rfl ?_
        refine gX7_78 hZ dX7_laysAside_20 ?_
        refine f_iload_n hZ dX7_laysAside_23 rfl ?_
        refine f_aload_n hZ dX7_laysAside_24 rfl ?_
        refine gX7_32 hZ dX7_laysAside_25 ?_
        refine f_iload_n hZ dX7_laysAside_28 rfl ?_
        refine f_iaload hZ dX7_laysAside_29 (by first | rfl | exact hC.t1 | exact hC.t2 | exact hC.t3 | exact hC.t4 | exact hC.t5) (by first | rfl | exact hC.l1 | exact hC.l2 | exact hC.l3 | exact hC.l4 | exact hC.l5) (by omega) (by omega) (fun r29 => ?_)
        try simp only [up_app, Nat.reduceEqDiff, Nat.reduceEqDiff, Int.reduceEq, and_true, true_and, and_false, false_and, if_true, if_false, reduceIte] at r29 ⊢
        refine f_iastore hZ dX7_laysAside_30 (by first | rfl | exact hC.t1 | exact hC.t2 | exact hC.t3 | exact hC.t4 | exact hC.t5) (by first | rfl | exact hC.l1 | exact hC.l2 | exact hC.l3 | exact hC.l4 | exact hC.l5) (by omega) (by omega) (by omega) ?_
        refine f_aload_n hZ dX7_laysAside_31 rfl ?_
        refine gX7_81 hZ dX7_laysAside_32 ?_
        refine f_iload_n hZ dX7_laysAside_35 rfl ?_
        refine f_aload_n hZ dX7_laysAside_36 rfl ?_
        refine gX7_35 hZ dX7_laysAside_37 ?_
        refine f_iload_n hZ dX7_laysAside_40 rfl ?_
        refine f_iaload hZ dX7_laysAside_41 (by first | rfl | exact hC.t1 | exact hC.t2 | exact hC.t3 | exact hC.t4 | exact hC.t5) (by first | rfl | exact hC.l1 | exact hC.l2 | exact hC.l3 | exact hC.l4 | exact hC.l5) (by omega) (by omega) (fun r41 => ?_)
        try simp only [up_app, Nat.reduceEqDiff, Nat.reduceEqDiff, Int.reduceEq, and_true, true_and, and_false, false_and, if_true, if_false, reduceIte] at r41 ⊢
        refine f_iastore hZ dX7_laysAside_42 (by first | rfl | exact hC.t1 | exact hC.t2 | exact hC.t3 | exact hC.t4 | exact hC.t5) (by first | rfl | exact hC.l1 | exact hC.l2 | exact hC.l3 | exact hC.l4 | exact hC.l5) (by omega) (by omega) (by omega) ?_
        refine f_iinc (L' := [_, _]) hZ dX7_laysAside_43 rfl rfl ?_
        refine f_goto (tgt := 2) hZ dX7_laysAside_46 rfl ?_
        refine f_iload_n hZ dX7_laysAside_2 rfl ?_
        refine f_iconst hZ dX7_laysAside_3 ?_
        refine f_ige (tgt := 49) hZ dX7_laysAside_4 rfl (by omega) (by omega) (fun h4 => ?_) (fun h4 => ?_)
        · exfalso; omega
        · refine f_aload_n hZ dX7_laysAside_7 rfl ?_
          refine gX7_75 hZ dX7_laysAside_8 ?_
          refine f_iload_n hZ dX7_laysAside_11 rfl ?_
          refine f_aload_n hZ dX7_laysAside_12 rfl ?_
          refine gX7_29 hZ dX7_laysAside_13 ?_
          refine f_iload_n hZ dX7_laysAside_16 rfl ?_
          refine f_iaload hZ dX7_laysAside_17 (by first | rfl | exact hC.t1 | exact hC.t2 | exact hC.t3 | exact hC.t4 | exact hC.t5) (by first | rfl | exact hC.l1 | exact hC.l2 | exact hC.l3 | exact hC.l4 | exact hC.l5) (by omega) (by omega) (fun r17 => ?_)
          try simp only [up_app, Nat.reduceEqDiff, Nat.reduceEqDiff, Int.reduceEq, and_true, true_and, and_false, false_and, if_true, if_false, reduceIte] at r17 ⊢
          refine f_iastore hZ dX7_laysAside_18 (by first | rfl | exact hC.t1 | exact hC.t2 | exact hC.t3 | exact hC.t4 | exact hC.t5) (by first | rfl | exact hC.l1 | exact hC.l2 | exact hC.l3 | exact hC.l4 | exact hC.l5) (by omega) (by omega) (by omega) ?_
          refine f_aload_n hZ dX7_laysAside_19 rfl ?_
          refine gX7_78 hZ dX7_laysAside_20 ?_
          refine f_iload_n hZ dX7_laysAside_23 rfl ?_
          refine f_aload_n hZ dX7_laysAside_24 rfl ?_
          refine gX7_32 hZ dX7_laysAside_25 ?_
          refine f_iload_n hZ dX7_laysAside_28 rfl ?_
          refine f_iaload hZ dX7_laysAside_29 (by first | rfl | exact hC.t1 | exact hC.t2 | exact hC.t3 | exact hC.t4 | exact hC.t5) (by first | rfl | exact hC.l1 | exact hC.l2 | exact hC.l3 | exact hC.l4 | exact hC.l5) (by omega) (by omega) (fun r29 => ?_)
          try simp only [up_app, Nat.reduceEqDiff, Nat.reduceEqDiff, Int.reduceEq, and_true, true_and, and_false, false_and, if_true, if_false, reduceIte] at r29 ⊢
          refine f_iastore hZ dX7_laysAside_30 (by first | rfl | exact hC.t1 | exact hC.t2 | exact hC.t3 | exact hC.t4 | exact hC.t5) (by first | rfl | exact hC.l1 | exact hC.l2 | exact hC.l3 | exact hC.l4 | exact hC.l5) (by omega) (by omega) (by omega) ?_
          refine f_aload_n hZ dX7_laysAside_31 rfl ?_
          refine gX7_81 hZ dX7_laysAside_32 ?_
          refine f_iload_n hZ dX7_laysAside_35 rfl ?_
          refine f_aload_n hZ dX7_laysAside_36 rfl ?_
          refine gX7_35 hZ dX7_laysAside_37 ?_
          refine f_iload_n hZ dX7_laysAside_40 rfl ?_
          refine f_iaload hZ dX7_laysAside_41 (by first | rfl | exact hC.t1 | exact hC.t2 | exact hC.t3 | exact hC.t4 | exact hC.t5) (by first | rfl | exact hC.l1 | exact hC.l2 | exact hC.l3 | exact hC.l4 | exact hC.l5) (by omega) (by omega) (fun r41 => ?_)
          try simp only [up_app, Nat.reduceEqDiff, Nat.reduceEqDiff, Int.reduceEq, and_true, true_and, and_false, false_and, if_true, if_false, reduceIte] at r41 ⊢
          refine f_iastore hZ dX7_laysAside_42 (by first | rfl | exact hC.t1 | exact hC.t2 | exact hC.t3 | exact hC.t4 | exact hC.t5) (by first | rfl | exact hC.l1 | exact hC.l2 | exact hC.l3 | exact hC.l4 | exact hC.l5) (by omega) (by omega) (by omega) ?_
          refine f_iinc (L' := [_, _]) hZ dX7_laysAside_43 rfl rfl ?_
          refine f_goto (tgt := 2) hZ dX7_laysAside_46 rfl ?_
          refine f_iload_n hZ dX7_laysAside_2 rfl ?_
          refine f_iconst hZ dX7_laysAside_3 ?_
          refine f_ige (tgt := 49) hZ dX7_laysAside_4 rfl (by omega) (by omega) (fun h4 => ?_) (fun h4 => ?_)
          · refine f_aload_n hZ dX7_laysAside_49 rfl ?_
            refine f_aload_n hZ dX7_laysAside_50 rfl ?_
            refine gX7_136 hZ dX7_laysAside_51 (fun r51 => ?_)
            try simp only [up_app, Nat.reduceEqDiff, Nat.reduceEqDiff, Int.reduceEq, and_true, true_and, and_false, false_and, if_true, if_false, reduceIte] at r51 ⊢
            refine pX7_343 hZ dX7_laysAside_54 (by omega) ?_
            exact f_retV hZ hR dX7_laysAside_57 rfl (by rfl)
          · exfalso; omega

set_option maxRecDepth 20000 in
set_option maxHeartbeats 4000000 in
theorem t_X7_laysBack {X : fX} {M : fM} {d : Nat} : fC X d mX7_laysBack [.ref (xa X 59)] M (QV fun M' => M' = lbackM M) := by
  refine fC.of (L := [_, _]) (by decide +kernel) rfl (Nat.le_of_ble_eq_true rfl) (fun Z hZ hR => ?_)
  refine f_iconst hZ dX7_laysBack_0 ?_
  refine f_istore_n (L' := [_, _]) hZ dX7_laysBack_1 rfl rfl ?_
  refine f_iload_n hZ dX7_laysBack_2 rfl ?_
  refine f_iconst hZ dX7_laysBack_3 ?_
  refine f_ige (tgt := 49) hZ dX7_laysBack_4 rfl (by omega) (by omega) (fun h4 => ?_) (fun h4 => ?_)
  · exfalso; omega
  · refine f_aload_n hZ dX7_laysBack_7 rfl ?_
    refine gX7_29 hZ dX7_laysBack_8 ?_
    refine f_iload_n hZ dX7_laysBack_11 rfl ?_
    refine f_aload_n hZ dX7_laysBack_12 rfl ?_
    refine gX7_75 hZ dX7_laysBack_13 ?_
    refine f_iload_n hZ dX7_laysBack_16 rfl ?_
    refine f_iaload hZ dX7_laysBack_17 (by first | rfl | exact hC.t1 | exact hC.t2 | exact hC.t3 | exact hC.t4 | exact hC.t5) (by first | rfl | exact hC.l1 | exact hC.l2 | exact hC.l3 | exact hC.l4 | exact hC.l5) (by omega) (by omega) (fun r17 => ?_)
    refine f_iastore hZ dX7_laysBack_18 (by first | rfl | exact hC.t1 | exact hC.t2 | exact hC.t3 | exact hC.t4 | exact hC.t5) (by first | rfl | exact hC.l1 | exact hC.l2 | exact hC.l3 | exact hC.l4 | exact hC.l5) (by omega) (by omega) (by omega) ?_
    refine f_aload_n hZ dX7_laysBack_19 rfl ?_
    refine gX7_32 hZ dX7_laysBack_20 ?_
    refine f_iload_n hZ dX7_laysBack_23 rfl ?_
    refine f_aload_n hZ dX7_laysBack_24 rfl ?_
    refine gX7_78 hZ dX7_laysBack_25 ?_
    refine f_iload_n hZ dX7_laysBack_28 rfl ?_
    refine f_iaload hZ dX7_laysBack_29 (by first | rfl | exact hC.t1 | exact hC.t2 | exact hC.t3 | exact hC.t4 | exact hC.t5) (by first | rfl | exact hC.l1 | exact hC.l2 | exact hC.l3 | exact hC.l4 | exact hC.l5) (by omega) (by omega) (fun r29 => ?_)
    try simp only [up_app, Nat.reduceEqDiff, Nat.reduceEqDiff, Int.reduceEq, and_true, true_and, and_false, false_and, if_true, if_false, reduceIte] at r29 ⊢
    refine f_iastore hZ dX7_laysBack_30 (by first | rfl | exact hC.t1 | exact hC.t2 | exact hC.t3 | exact hC.t4 | exact hC.t5) (by first | rfl | exact hC.l1 | exact hC.l2 | exact hC.l3 | exact hC.l4 | exact hC.l5) (by omega) (by omega) (by omega) ?_
    refine f_aload_n hZ dX7_laysBack_31 rfl ?_
    refine gX7_35 hZ dX7_laysBack_32 ?_
    refine f_iload_n hZ dX7_laysBack_35 rfl ?_
    refine f_aload_n hZ dX7_laysBack_36 rfl ?_
    refine gX7_81 hZ dX7_laysBack_37 ?_
    refine f_iload_n hZ dX7_laysBack_40 rfl ?_
    refine f_iaload hZ dX7_laysBack_41 (by first | rfl | exact hC.t1 | exact hC.t2 | exact hC.t3 | exact hC.t4 | exact hC.t5) (by first | rfl | exact hC.l1 | exact hC.l2 | exact hC.l3 | exact hC.l4 | exact hC.l5) (by omega) (by omega) (fun r41 => ?_)
    try simp only [up_app, Nat.reduceEqDiff, Nat.reduceEqDiff, Int.reduceEq, and_true, true_and, and_false, false_and, if_true, if_false, reduceIte] at r41 ⊢
    refine f_iastore hZ dX7_laysBack_42 (by first | rfl | exact hC.t1 | exact hC.t2 | exact hC.t3 | exact hC.t4 | exact hC.t5) (by first | rfl | exact hC.l1 | exact hC.l2 | exact hC.l3 | exact hC.l4 | exact hC.l5) (by omega) (by omega) (by omega) ?_
    refine f_iinc (L' := [_, _]) hZ dX7_laysBack_43 rfl rfl ?_
    refine f_goto (tgt := 2) hZ dX7_laysBack_46 rfl ?_
    refine f_iload_n hZ dX7_laysBack_2 rfl ?_
    refine f_iconst hZ dX7_laysBack_3 ?_
    refine f_ige (tgt := 49) hZ dX7_laysBack_4 rfl (by omega) (by omega) (fun h4 => ?_) (fun h4 => ?_)
    · exfalso; omega
    · refine f_aload_n hZ dX7_laysBack_7 rfl ?_
      refine gX7_29 hZ dX7_laysBack_8 ?_
      refine f_iload_n hZ dX7_laysBack_11 rfl ?_
      refine f_aload_n hZ dX7_laysBack_12 rfl ?_
      refine gX7_75 hZ dX7_laysBack_13 ?_
      refine f_iload_n hZ dX7_laysBack_16 rfl ?_
      refine f_iaload hZ dX7_laysBack_17 (by first | rfl | exact hC.t1 | exact hC.t2 | exact hC.t3 | exact hC.t4 | exact hC.t5) (by first | rfl | exact hC.l1 | exact hC.l2 | exact hC.l3 | exact hC.l4 | exact hC.l5) (by omega) (by omega) (fun r17 => ?_)
      try simp only [up_app, Nat.reduceEqDiff, Nat.reduceEqDiff, Int.reduceEq, and_true, true_and, and_false, false_and, if_true, if_false, reduceIte] at r17 ⊢
      refine f_iastore hZ dX7_laysBack_18 (by first | rfl | exact hC.t1 | exact hC.t2 | exact hC.t3 | exact hC.t4 | exact hC.t5) (by first | rfl | exact hC.l1 | exact hC.l2 | exact hC.l3 | exact hC.l4 | exact hC.l5) (by omega) (by omega) (by omega) ?_
      refine f_aload_n hZ dX7_laysBack_19 rfl ?_
      refine gX7_32 hZ dX7_laysBack_20 ?_
      refine f_iload_n hZ dX7_laysBack_23 rfl ?_
      refine f_aload_n hZ dX7_laysBack_24 rfl ?_
      refine gX7_78 hZ dX7_laysBack_25 ?_
      refine f_iload_n hZ dX7_laysBack_28 rfl ?_
      refine f_iaload hZ dX7_laysBack_29 (by first | rfl | exact hC.t1 | exact hC.t2 | exact hC.t3 | exact hC.t4 | exact hC.t5) (by first | rfl | exact hC.l1 | exact hC.l2 | exact hC.l3 | exact hC.l4 | exact hC.l5) (by omega) (by omega) (fun r29 => ?_)
      try simp only [up_app, Nat.reduceEqDiff, Nat.reduceEqDiff, Int.reduceEq, and_true, true_and, and_false, false_and, if_true, if_false, reduceIte] at r29 ⊢
      refine f_iastore hZ dX7_laysBack_30 (by first | rfl | exact hC.t1 | exact hC.t2 | exact hC.t3 | exact hC.t4 | exact hC.t5) (by first | rfl | exact hC.l1 | exact hC.l2 | exact hC.l3 | exact hC.l4 | exact hC.l5) (by omega) (by omega) (by omega) ?_
      refine f_aload_n hZ dX7_laysBack_31 rfl ?_
      refine gX7_35 hZ dX7_laysBack_32 ?_
      refine f_iload_n hZ dX7_laysBack_35 rfl ?_
      refine f_aload_n hZ dX7_laysBack_36 rfl ?_
      refine gX7_81 hZ dX7_laysBack_37 ?_
      refine f_iload_n hZ dX7_laysBack_40 rfl ?_
      refine f_iaload hZ dX7_laysBack_41 (by first | rfl | exact hC.t1 | exact hC.t2 | exact hC.t3 | exact hC.t4 | exact hC.t5) (by first | rfl | exact hC.l1 | exact hC.l2 | exact hC.l3 | exact hC.l4 | exact hC.l5) (by omega) (by omega) (fun r41 => ?_)
      try simp only [up_app, Nat.reduceEqDiff, Nat.reduceEqDiff, Int.reduceEq, and_true, true_and, and_false, false_and, if_true, if_false, reduceIte] at r41 ⊢
      refine f_iastore hZ dX7_laysBack_42 (by first | rfl | exact hC.t1 | exact hC.t2 | exact hC.t3 | exact hC.t4 | exact hC.t5) (by first | rfl | exact hC.l1 | exact hC.l2 | exact hC.l3 | exact hC.l4 | exact hC.l5) (by omega) (by omega) (by omega) ?_
      refine f_iinc (L' := [_, _]) hZ dX7_laysBack_43 rfl rfl ?_
      refine f_goto (tgt := 2) hZ dX7_laysBack_46 rfl ?_
      refine f_iload_n hZ dX7_laysBack_2 rfl ?_
      refine f_iconst hZ dX7_laysBack_3 ?_
      refine f_ige (tgt := 49) hZ dX7_laysBack_4 rfl (by omega) (by omega) (fun h4 => ?_) (fun h4 => ?_)
      · exfalso; omega
      · refine f_aload_n hZ dX7_laysBack_7 rfl ?_
        refine gX7_29 hZ dX7_laysBack_8 ?_
        refine f_iload_n hZ dX7_laysBack_11 rfl ?_
        refine f_aload_n hZ dX7_laysBack_12 rfl ?_
        refine gX7_75 hZ dX7_laysBack_13 ?_
        refine f_iload_n hZ dX7_laysBack_16 rfl ?_
        refine f_iaload hZ dX7_laysBack_17 (by first | rfl | exact hC.t1 | exact hC.t2 | exact hC.t3 | exact hC.t4 | exact hC.t5) (by first | rfl | exact hC.l1 | exact hC.l2 | exact hC.l3 | exact hC.l4 | exact hC.l5) (by omega) (by omega) (fun r17 => ?_)
        try simp only [up_app, Nat.reduceEqDiff, Nat.reduceEqDiff, Int.reduceEq, and_true, true_and, and_false, false_and, if_true, if_false, reduceIte] at r17 ⊢
        refine f_iastore hZ dX7_laysBack_18 (by first | rfl | exact hC.t1 | exact hC.t2 | exact hC.t3 | exact hC.t4 | exact hC.t5) (by first | rfl | exact hC.l1 | exact hC.l2 | exact hC.l3 | exact hC.l4 | exact hC.l5) (by omega) (by omega) (by omega) ?_
        refine f_aload_n hZ dX7_laysBack_19 rfl ?_
        refine gX7_32 hZ dX7_laysBack_20 ?_
        refine f_iload_n hZ dX7_laysBack_23 rfl ?_
        refine f_aload_n hZ dX7_laysBack_24 rfl ?_
        refine gX7_78 hZ dX7_laysBack_25 ?_
        refine f_iload_n hZ dX7_laysBack_28 rfl ?_
        refine f_iaload hZ dX7_laysBack_29 (by first | rfl | exact hC.t1 | exact hC.t2 | exact hC.t3 | exact hC.t4 | exact hC.t5) (by first | rfl | exact hC.l1 | exact hC.l2 | exact hC.l3 | exact hC.l4 | exact hC.l5) (by omega) (by omega) (fun r29 => ?_)
        try simp only [up_app, Nat.reduceEqDiff, Nat.reduceEqDiff, Int.reduceEq, and_true, true_and, and_false, false_and, if_true, if_false, reduceIte] at r29 ⊢
        refine f_iastore hZ dX7_laysBack_30 (by first | rfl | exact hC.t1 | exact hC.t2 | exact hC.t3 | exact hC.t4 | exact hC.t5) (by first | rfl | exact hC.l1 | exact hC.l2 | exact hC.l3 | exact hC.l4 | exact hC.l5) (by omega) (by omega) (by omega) ?_
        refine f_aload_n hZ dX7_laysBack_31 rfl ?_
        refine gX7_35 hZ dX7_laysBack_32 ?_
        refine f_iload_n hZ dX7_laysBack_35 rfl ?_
        refine f_aload_n hZ dX7_laysBack_36 rfl ?_
        refine gX7_81 hZ dX7_laysBack_37 ?_
        refine f_iload_n hZ dX7_laysBack_40 rfl ?_
        refine f_iaload hZ dX7_laysBack_41 (by first | rfl | exact hC.t1 | exact hC.t2 | exact hC.t3 | exact hC.t4 | exact hC.t5) (by first | rfl | exact hC.l1 | exact hC.l2 | exact hC.l3 | exact hC.l4 | exact hC.l5) (by omega) (by omega) (fun r41 => ?_)
        try simp only [up_app, Nat.reduceEqDiff, Nat.reduceEqDiff, Int.reduceEq, and_true, true_and, and_false, false_and, if_true, if_false, reduceIte] at r41 ⊢
        refine f_iastore hZ dX7_laysBack_42 (by first | rfl | exact hC.t1 | exact hC.t2 | exact hC.t3 | exact hC.t4 | exact hC.t5) (by first | rfl | exact hC.l1 | exact hC.l2 | exact hC.l3 | exact hC.l4 | exact hC.l5) (by omega) (by omega) (by omega) ?_
        refine f_iinc (L' := [_, _]) hZ dX7_laysBack_43 rfl rfl ?_
        refine f_goto (tgt := 2) hZ dX7_laysBack_46 rfl ?_
        refine f_iload_n hZ dX7_laysBack_2 rfl ?_
        refine f_iconst hZ dX7_laysBack_3 ?_
        refine f_ige (tgt := 49) hZ dX7_laysBack_4 rfl (by omega) (by omega) (fun h4 => ?_) (fun h4 => ?_)
        · exfalso; omega
        · refine f_aload_n hZ dX7_laysBack_7 rfl ?_
          refine gX7_29 hZ dX7_laysBack_8 ?_
          refine f_iload_n hZ dX7_laysBack_11 rfl ?_
          refine f_aload_n hZ dX7_laysBack_12 rfl ?_
          refine gX7_75 hZ dX7_laysBack_13 ?_
          refine f_iload_n hZ dX7_laysBack_16 rfl ?_
          refine f_iaload hZ dX7_laysBack_17 (by first | rfl | exact hC.t1 | exact hC.t2 | exact hC.t3 | exact hC.t4 | exact hC.t5) (by first | rfl | exact hC.l1 | exact hC.l2 | exact hC.l3 | exact hC.l4 | exact hC.l5) (by omega) (by omega) (fun r17 => ?_)
          try simp only [up_app, Nat.reduceEqDiff, Nat.reduceEqDiff, Int.reduceEq, and_true, true_and, and_false, false_and, if_true, if_false, reduceIte] at r17 ⊢
          refine f_iastore hZ dX7_laysBack_18 (by first | rfl | exact hC.t1 | exact hC.t2 | exact hC.t3 | exact hC.t4 | exact hC.t5) (by first | rfl | exact hC.l1 | exact hC.l2 | exact hC.l3 | exact hC.l4 | exact hC.l5) (by omega) (by omega) (by omega) ?_
          refine f_aload_n hZ dX7_laysBack_19 rfl ?_
          refine gX7_32 hZ dX7_laysBack_20 ?_
          refine f_iload_n hZ dX7_laysBack_23 rfl ?_
          refine f_aload_n hZ dX7_laysBack_24 rfl ?_
          refine gX7_78 hZ dX7_laysBack_25 ?_
          refine f_iload_n hZ dX7_laysBack_28 rfl ?_
          refine f_iaload hZ dX7_laysBack_29 (by first | rfl | exact hC.t1 | exact hC.t2 | exact hC.t3 | exact hC.t4 | exact hC.t5) (by first | rfl | exact hC.l1 | exact hC.l2 | exact hC.l3 | exact hC.l4 | exact hC.l5) (by omega) (by omega) (fun r29 => ?_)
          try simp only [up_app, Nat.reduceEqDiff, Nat.reduceEqDiff, Int.reduceEq, and_true, true_and, and_false, false_and, if_true, if_false, reduceIte] at r29 ⊢
          refine f_iastore hZ dX7_laysBack_30 (by first | rfl | exact hC.t1 | exact hC.t2 | exact hC.t3 | exact hC.t4 | exact hC.t5) (by first | rfl | exact hC.l1 | exact hC.l2 | exact hC.l3 | exact hC.l4 | exact hC.l5) (by omega) (by omega) (by omega) ?_
          refine f_aload_n hZ dX7_laysBack_31 rfl ?_
          refine gX7_35 hZ dX7_laysBack_32 ?_
          refine f_iload_n hZ dX7_laysBack_35 rfl ?_
          refine f_aload_n hZ dX7_laysBack_36 rfl ?_
          refine gX7_81 hZ dX7_laysBack_37 ?_
          refine f_iload_n hZ dX7_laysBack_40 rfl ?_
          refine f_iaload hZ dX7_laysBack_41 (by first | rfl | exact hC.t1 | exact hC.t2 | exact hC.t3 | exact hC.t4 | exact hC.t5) (by first | rfl | exact hC.l1 | exact hC.l2 | exact hC.l3 | exact hC.l4 | exact hC.l5) (by omega) (by omega) (fun r41 => ?_)
          try simp only [up_app, Nat.reduceEqDiff, Nat.reduceEqDiff, Int.reduceEq, and_true, true_and, and_false, false_and, if_true, if_false, reduceIte] at r41 ⊢
          refine f_iastore hZ dX7_laysBack_42 (by first | rfl | exact hC.t1 | exact hC.t2 | exact hC.t3 | exact hC.t4 | exact hC.t5) (by first | rfl | exact hC.l1 | exact hC.l2 | exact hC.l3 | exact hC.l4 | exact hC.l5) (by omega) (by omega) (by omega) ?_
          refine f_iinc (L' := [_, _]) hZ dX7_laysBack_43 rfl rfl ?_
          refine f_goto (tgt := 2) hZ dX7_laysBack_46 rfl ?_
          refine f_iload_n hZ dX7_laysBack_2 rfl ?_
          refine f_iconst hZ dX7_laysBack_3 ?_
          refine f_ige (tgt := 49) hZ dX7_laysBack_4 rfl (by omega) (by omega) (fun h4 => ?_) (fun h4 => ?_)
          · refine f_aload_n hZ dX7_laysBack_49 rfl ?_
            refine f_aload_n hZ dX7_laysBack_50 rfl ?_
            refine gX7_343 hZ dX7_laysBack_51 (fun r51 => ?_)
            try simp only [up_app, Nat.reduceEqDiff, Nat.reduceEqDiff, Int.reduceEq, and_true, true_and, and_false, false_and, if_true, if_false, reduceIte] at r51 ⊢
            refine pX7_136 hZ dX7_laysBack_54 (by omega) ?_
            exact f_retV hZ hR dX7_laysBack_57 rfl (by rfl)
          · exfalso; omega

theorem gcd_low : ∀ n : Nat, n < 21 → ∀ a : Nat, a < 21 → 1 ≤ n → a ≤ n → ((a : Int).tdiv (Nat.gcd a n : Int) = lowN a a n (n - 1)) ∧ ((n : Int).tdiv (Nat.gcd a n : Int) = lowN n a n (n - 1)) := by decide +kernel
theorem gcd_lowZ {n a g : Int} (hn : 1 ≤ n ∧ n ≤ 20) (ha : 0 ≤ a ∧ a ≤ n) (hg : g = (Nat.gcd a.toNat n.toNat : Int)) : a.tdiv g = lowN a a n (n - 1).toNat ∧ n.tdiv g = lowN n a n (n - 1).toNat := by
  have h := gcd_low n.toNat (by omega) a.toNat (by omega) (by omega) (by omega)
  rw [show ((a.toNat : Nat) : Int) = a by omega, show ((n.toNat : Nat) : Int) = n by omega, show n.toNat - 1 = (n - 1).toNat by omega, ← hg] at h
  exact h
theorem gcd_step {p q : Int} (hp : 0 ≤ p) (hq : 0 < q) : Nat.gcd q.toNat (p.tmod q).toNat = Nat.gcd p.toNat q.toNat := by
  rw [Int.tmod_eq_emod_of_nonneg hp, show (p % q).toNat = p.toNat % q.toNat from by rw [Int.toNat_emod hp (by omega)], Nat.gcd_comm p.toNat, Nat.gcd_rec q.toNat p.toNat, Nat.gcd_comm]
theorem rj_tdiv {a b : Int} (ha : 0 ≤ a ∧ a ≤ 100000) (hb : 1 ≤ b) : rj (a.tdiv b) := by
  have := rg_tdiv ha hb
  omega
set_option maxRecDepth 20000 in
set_option maxHeartbeats 4000000 in
theorem t_X7_chance {X : fX} {M : fM} {d : Nat} {s n sp pt : Int} (hn0 : rg n) (hsp : rg sp) (hpt : rg pt) (hW : WfM M) : fC X (d + 2) mX7_chance [.ref (xa X 59), .int (iv s), .int (iv n), .int (iv sp), .int (iv pt)] M (QJ fun r M' => M' = M ∧ r = chanceZ (M 63) (M 64) (M 65) (M 66) (M 59 12) (M 59 13) s n sp pt) := by
  refine fC.of (L := [_, _, _, _, _, _, _, _, _, _, _, _, _]) (by decide +kernel) rfl (Nat.le_of_ble_eq_true rfl) (fun Z hZ hR => ?_)
  by_cases hok : (1 ≤ n ∧ n ≤ 20) ∧ (0 ≤ sp ∧ sp ≤ 250) ∧ (0 ≤ pt ∧ pt ≤ 1)
  rotate_left
  · skip
    refine f_iload_n hZ dX7_chance_0 rfl ?_
    refine f_i2l hZ dX7_chance_1 (by omega) ?_
    refine f_lconst1 hZ dX7_chance_2 ?_
    refine f_ldc2 (v := (20 : Int64)) hZ (20) dX7_chance_3 (tb_in 1243 (by decide +kernel) (by decide +kernel)) (by decide) ?_
    refine sX7_113 hZ dX7_chance_6 (t_X7_in (by omega) (by omega) (by omega)) (fun a6 M6 r6 h6 => ?_)
    obtain ⟨e6, h6⟩ := h6
    replace e6 := e6.symm
    subst e6
    refine f_eq (tgt := 35) hZ dX7_chance_9 rfl (by omega) (fun h9 => ?_) (fun h9 => ?_)
    · refine f_ldc2 (v := (-4611686018427387904 : Int64)) hZ (-4611686018427387904) dX7_chance_35 (tb_in 1195 (by decide +kernel) (by decide +kernel)) (by decide) ?_
      exact f_retJ hZ hR dX7_chance_38 rfl (by omega) (by exact ⟨rfl, by unfold chanceZ; rw [if_pos (by omega)]⟩)
    · refine f_iload_n hZ dX7_chance_12 rfl ?_
      refine f_i2l hZ dX7_chance_13 (by omega) ?_
      refine f_lconst0 hZ dX7_chance_14 ?_
      refine f_ldc2 (v := (250 : Int64)) hZ (250) dX7_chance_15 (tb_in 1130 (by decide +kernel) (by decide +kernel)) (by decide) ?_
      refine sX7_113 hZ dX7_chance_18 (t_X7_in (by omega) (by omega) (by omega)) (fun a18 M18 r18 h18 => ?_)
      obtain ⟨e18, h18⟩ := h18
      replace e18 := e18.symm
      subst e18
      refine f_eq (tgt := 35) hZ dX7_chance_21 rfl (by omega) (fun h21 => ?_) (fun h21 => ?_)
      · refine f_ldc2 (v := (-4611686018427387904 : Int64)) hZ (-4611686018427387904) dX7_chance_35 (tb_in 1195 (by decide +kernel) (by decide +kernel)) (by decide) ?_
        exact f_retJ hZ hR dX7_chance_38 rfl (by omega) (by exact ⟨rfl, by unfold chanceZ; rw [if_pos (by omega)]⟩)
      · refine f_iload hZ dX7_chance_24 rfl ?_
        refine f_i2l hZ dX7_chance_26 (by omega) ?_
        refine f_lconst0 hZ dX7_chance_27 ?_
        refine f_lconst1 hZ dX7_chance_28 ?_
        refine sX7_113 hZ dX7_chance_29 (t_X7_in (by omega) (by omega) (by omega)) (fun a29 M29 r29 h29 => ?_)
        obtain ⟨e29, h29⟩ := h29
        replace e29 := e29.symm
        subst e29
        refine f_ne (tgt := 39) hZ dX7_chance_32 rfl (by omega) (fun h32 => ?_) (fun h32 => ?_)
        · exfalso; omega
        · refine f_ldc2 (v := (-4611686018427387904 : Int64)) hZ (-4611686018427387904) dX7_chance_35 (tb_in 1195 (by decide +kernel) (by decide +kernel)) (by decide) ?_
          exact f_retJ hZ hR dX7_chance_38 rfl (by omega) (by exact ⟨rfl, by unfold chanceZ; rw [if_pos (by omega)]⟩)
  have hS := hit_rg (M 63) (M 64) (M 65) (M 66) (M 59 12) (M 59 13) s sp (w := n) (by omega)
  have gcdl : ∀ (m : Nat) (p q : Int), (0 ≤ p ∧ p ≤ 20) → (0 ≤ q ∧ q ≤ 20) → q ≤ m → 1 ≤ p + q → (Nat.gcd p.toNat q.toNat = Nat.gcd (sumZ (hitF (M 63) (M 64) (M 65) (M 66) (M 59 12) (M 59 13) s sp) n).toNat n.toNat) → fG X mX7_chance Z 87 [.ref (xa X 59), .int (iv s), .int (iv n), .int (iv sp), .int (iv pt), .long (jv (sumZ (hitF (M 63) (M 64) (M 65) (M 66) (M 59 12) (M 59 13) s sp) n)), .null, .long (jv p), .null, .long (jv q), .null, .null, .null] [] M := by
    intro m
    induction m with
    | zero =>
      intro p q hp hq hm h1 hg
      refine f_lload hZ dX7_chance_87 rfl ?_
      refine f_lconst0 hZ dX7_chance_89 ?_
      refine f_lcmp hZ dX7_chance_90 (by first | omega | exact rj_tdiv (by omega) (by omega) | exact ⟨by have := (tmodp (a := p) (b := q) (by omega) (by omega)).1; omega, by have := (tmodp (a := p) (b := q) (by omega) (by omega)).2; omega⟩) (by first | omega | exact rj_tdiv (by omega) (by omega) | exact ⟨by have := (tmodp (a := p) (b := q) (by omega) (by omega)).1; omega, by have := (tmodp (a := p) (b := q) (by omega) (by omega)).2; omega⟩) ?_
      refine f_eq (tgt := 112) hZ dX7_chance_91 rfl (rg_cmpJ _ _) (fun h91 => ?_) (fun h91 => ?_)
      · simp only [cmpJ_lt, cmpJ_gt, cmpJ_eq, cmpJ_ge, cmpJ_le] at h91
        refine f_iload hZ dX7_chance_112 rfl ?_
        refine f_ne (tgt := 125) hZ dX7_chance_114 rfl (by first | omega | exact rj_tdiv (by omega) (by omega) | exact ⟨by have := (tmodp (a := p) (b := q) (by omega) (by omega)).1; omega, by have := (tmodp (a := p) (b := q) (by omega) (by omega)).2; omega⟩) (fun h114 => ?_) (fun h114 => ?_)
        · refine f_iload_n hZ dX7_chance_125 rfl ?_
          refine f_i2l hZ dX7_chance_126 (by first | omega | exact rj_tdiv (by omega) (by omega) | exact ⟨by have := (tmodp (a := p) (b := q) (by omega) (by omega)).1; omega, by have := (tmodp (a := p) (b := q) (by omega) (by omega)).2; omega⟩) ?_
          refine f_lload hZ dX7_chance_127 rfl ?_
          refine f_ldiv hZ dX7_chance_129 (by first | omega | exact rj_tdiv (by omega) (by omega) | exact ⟨by have := (tmodp (a := p) (b := q) (by omega) (by omega)).1; omega, by have := (tmodp (a := p) (b := q) (by omega) (by omega)).2; omega⟩) (by first | omega | exact rj_tdiv (by omega) (by omega) | exact ⟨by have := (tmodp (a := p) (b := q) (by omega) (by omega)).1; omega, by have := (tmodp (a := p) (b := q) (by omega) (by omega)).2; omega⟩) (by first | omega | exact rj_tdiv (by omega) (by omega) | exact ⟨by have := (tmodp (a := p) (b := q) (by omega) (by omega)).1; omega, by have := (tmodp (a := p) (b := q) (by omega) (by omega)).2; omega⟩) (by first | omega | exact rj_tdiv (by omega) (by omega) | exact ⟨by have := (tmodp (a := p) (b := q) (by omega) (by omega)).1; omega, by have := (tmodp (a := p) (b := q) (by omega) (by omega)).2; omega⟩) ?_
          exact f_retJ hZ hR dX7_chance_130 rfl (by first | omega | exact rj_tdiv (by omega) (by omega) | exact ⟨by have := (tmodp (a := p) (b := q) (by omega) (by omega)).1; omega, by have := (tmodp (a := p) (b := q) (by omega) (by omega)).2; omega⟩) (by refine ⟨rfl, ?_⟩; have hgl := gcd_lowZ (g := p) hok.1 ⟨hS.1, hS.2⟩ (by rw [← hg, show q = 0 by omega, show (0 : Int).toNat = 0 from rfl, Nat.gcd_zero_right]; omega); unfold chanceZ; rw [if_neg (by omega)]; first | (rw [if_pos (by omega)]; exact hgl.1) | (rw [if_neg (by omega)]; exact hgl.2))
        · refine f_lload hZ dX7_chance_117 rfl ?_
          refine f_lload hZ dX7_chance_119 rfl ?_
          refine f_ldiv hZ dX7_chance_121 (by first | omega | exact rj_tdiv (by omega) (by omega) | exact ⟨by have := (tmodp (a := p) (b := q) (by omega) (by omega)).1; omega, by have := (tmodp (a := p) (b := q) (by omega) (by omega)).2; omega⟩) (by first | omega | exact rj_tdiv (by omega) (by omega) | exact ⟨by have := (tmodp (a := p) (b := q) (by omega) (by omega)).1; omega, by have := (tmodp (a := p) (b := q) (by omega) (by omega)).2; omega⟩) (by first | omega | exact rj_tdiv (by omega) (by omega) | exact ⟨by have := (tmodp (a := p) (b := q) (by omega) (by omega)).1; omega, by have := (tmodp (a := p) (b := q) (by omega) (by omega)).2; omega⟩) (by first | omega | exact rj_tdiv (by omega) (by omega) | exact ⟨by have := (tmodp (a := p) (b := q) (by omega) (by omega)).1; omega, by have := (tmodp (a := p) (b := q) (by omega) (by omega)).2; omega⟩) ?_
          refine f_goto (tgt := 130) hZ dX7_chance_122 rfl ?_
          exact f_retJ hZ hR dX7_chance_130 rfl (by first | omega | exact rj_tdiv (by omega) (by omega) | exact ⟨by have := (tmodp (a := p) (b := q) (by omega) (by omega)).1; omega, by have := (tmodp (a := p) (b := q) (by omega) (by omega)).2; omega⟩) (by refine ⟨rfl, ?_⟩; have hgl := gcd_lowZ (g := p) hok.1 ⟨hS.1, hS.2⟩ (by rw [← hg, show q = 0 by omega, show (0 : Int).toNat = 0 from rfl, Nat.gcd_zero_right]; omega); unfold chanceZ; rw [if_neg (by omega)]; first | (rw [if_pos (by omega)]; exact hgl.1) | (rw [if_neg (by omega)]; exact hgl.2))
      · simp only [cmpJ_lt, cmpJ_gt, cmpJ_eq, cmpJ_ge, cmpJ_le] at h91
        exfalso; omega
    | succ m ih =>
      intro p q hp hq hm h1 hg
      refine f_lload hZ dX7_chance_87 rfl ?_
      refine f_lconst0 hZ dX7_chance_89 ?_
      refine f_lcmp hZ dX7_chance_90 (by first | omega | exact rj_tdiv (by omega) (by omega) | exact ⟨by have := (tmodp (a := p) (b := q) (by omega) (by omega)).1; omega, by have := (tmodp (a := p) (b := q) (by omega) (by omega)).2; omega⟩) (by first | omega | exact rj_tdiv (by omega) (by omega) | exact ⟨by have := (tmodp (a := p) (b := q) (by omega) (by omega)).1; omega, by have := (tmodp (a := p) (b := q) (by omega) (by omega)).2; omega⟩) ?_
      refine f_eq (tgt := 112) hZ dX7_chance_91 rfl (rg_cmpJ _ _) (fun h91 => ?_) (fun h91 => ?_)
      · simp only [cmpJ_lt, cmpJ_gt, cmpJ_eq, cmpJ_ge, cmpJ_le] at h91
        refine f_iload hZ dX7_chance_112 rfl ?_
        refine f_ne (tgt := 125) hZ dX7_chance_114 rfl (by first | omega | exact rj_tdiv (by omega) (by omega) | exact ⟨by have := (tmodp (a := p) (b := q) (by omega) (by omega)).1; omega, by have := (tmodp (a := p) (b := q) (by omega) (by omega)).2; omega⟩) (fun h114 => ?_) (fun h114 => ?_)
        · refine f_iload_n hZ dX7_chance_125 rfl ?_
          refine f_i2l hZ dX7_chance_126 (by first | omega | exact rj_tdiv (by omega) (by omega) | exact ⟨by have := (tmodp (a := p) (b := q) (by omega) (by omega)).1; omega, by have := (tmodp (a := p) (b := q) (by omega) (by omega)).2; omega⟩) ?_
          refine f_lload hZ dX7_chance_127 rfl ?_
          refine f_ldiv hZ dX7_chance_129 (by first | omega | exact rj_tdiv (by omega) (by omega) | exact ⟨by have := (tmodp (a := p) (b := q) (by omega) (by omega)).1; omega, by have := (tmodp (a := p) (b := q) (by omega) (by omega)).2; omega⟩) (by first | omega | exact rj_tdiv (by omega) (by omega) | exact ⟨by have := (tmodp (a := p) (b := q) (by omega) (by omega)).1; omega, by have := (tmodp (a := p) (b := q) (by omega) (by omega)).2; omega⟩) (by first | omega | exact rj_tdiv (by omega) (by omega) | exact ⟨by have := (tmodp (a := p) (b := q) (by omega) (by omega)).1; omega, by have := (tmodp (a := p) (b := q) (by omega) (by omega)).2; omega⟩) (by first | omega | exact rj_tdiv (by omega) (by omega) | exact ⟨by have := (tmodp (a := p) (b := q) (by omega) (by omega)).1; omega, by have := (tmodp (a := p) (b := q) (by omega) (by omega)).2; omega⟩) ?_
          exact f_retJ hZ hR dX7_chance_130 rfl (by first | omega | exact rj_tdiv (by omega) (by omega) | exact ⟨by have := (tmodp (a := p) (b := q) (by omega) (by omega)).1; omega, by have := (tmodp (a := p) (b := q) (by omega) (by omega)).2; omega⟩) (by refine ⟨rfl, ?_⟩; have hgl := gcd_lowZ (g := p) hok.1 ⟨hS.1, hS.2⟩ (by rw [← hg, show q = 0 by omega, show (0 : Int).toNat = 0 from rfl, Nat.gcd_zero_right]; omega); unfold chanceZ; rw [if_neg (by omega)]; first | (rw [if_pos (by omega)]; exact hgl.1) | (rw [if_neg (by omega)]; exact hgl.2))
        · refine f_lload hZ dX7_chance_117 rfl ?_
          refine f_lload hZ dX7_chance_119 rfl ?_
          refine f_ldiv hZ dX7_chance_121 (by first | omega | exact rj_tdiv (by omega) (by omega) | exact ⟨by have := (tmodp (a := p) (b := q) (by omega) (by omega)).1; omega, by have := (tmodp (a := p) (b := q) (by omega) (by omega)).2; omega⟩) (by first | omega | exact rj_tdiv (by omega) (by omega) | exact ⟨by have := (tmodp (a := p) (b := q) (by omega) (by omega)).1; omega, by have := (tmodp (a := p) (b := q) (by omega) (by omega)).2; omega⟩) (by first | omega | exact rj_tdiv (by omega) (by omega) | exact ⟨by have := (tmodp (a := p) (b := q) (by omega) (by omega)).1; omega, by have := (tmodp (a := p) (b := q) (by omega) (by omega)).2; omega⟩) (by first | omega | exact rj_tdiv (by omega) (by omega) | exact ⟨by have := (tmodp (a := p) (b := q) (by omega) (by omega)).1; omega, by have := (tmodp (a := p) (b := q) (by omega) (by omega)).2; omega⟩) ?_
          refine f_goto (tgt := 130) hZ dX7_chance_122 rfl ?_
          exact f_retJ hZ hR dX7_chance_130 rfl (by first | omega | exact rj_tdiv (by omega) (by omega) | exact ⟨by have := (tmodp (a := p) (b := q) (by omega) (by omega)).1; omega, by have := (tmodp (a := p) (b := q) (by omega) (by omega)).2; omega⟩) (by refine ⟨rfl, ?_⟩; have hgl := gcd_lowZ (g := p) hok.1 ⟨hS.1, hS.2⟩ (by rw [← hg, show q = 0 by omega, show (0 : Int).toNat = 0 from rfl, Nat.gcd_zero_right]; omega); unfold chanceZ; rw [if_neg (by omega)]; first | (rw [if_pos (by omega)]; exact hgl.1) | (rw [if_neg (by omega)]; exact hgl.2))
      · simp only [cmpJ_lt, cmpJ_gt, cmpJ_eq, cmpJ_ge, cmpJ_le] at h91
        refine f_lload hZ dX7_chance_94 rfl ?_
        refine f_lload hZ dX7_chance_96 rfl ?_
        refine f_lrem hZ dX7_chance_98 (by first | omega | exact rj_tdiv (by omega) (by omega) | exact ⟨by have := (tmodp (a := p) (b := q) (by omega) (by omega)).1; omega, by have := (tmodp (a := p) (b := q) (by omega) (by omega)).2; omega⟩) (by first | omega | exact rj_tdiv (by omega) (by omega) | exact ⟨by have := (tmodp (a := p) (b := q) (by omega) (by omega)).1; omega, by have := (tmodp (a := p) (b := q) (by omega) (by omega)).2; omega⟩) (by first | omega | exact rj_tdiv (by omega) (by omega) | exact ⟨by have := (tmodp (a := p) (b := q) (by omega) (by omega)).1; omega, by have := (tmodp (a := p) (b := q) (by omega) (by omega)).2; omega⟩) (by first | omega | exact rj_tdiv (by omega) (by omega) | exact ⟨by have := (tmodp (a := p) (b := q) (by omega) (by omega)).1; omega, by have := (tmodp (a := p) (b := q) (by omega) (by omega)).2; omega⟩) ?_
        refine f_lstore (L' := [_, _, _, _, _, _, _, _, _, _, _, _, _]) hZ dX7_chance_99 rfl rfl ?_
        refine f_lload hZ dX7_chance_101 rfl ?_
        refine f_lstore (L' := [_, _, _, _, _, _, _, _, _, _, _, _, _]) hZ dX7_chance_103 rfl rfl ?_
        refine f_lload hZ dX7_chance_105 rfl ?_
        refine f_lstore (L' := [_, _, _, _, _, _, _, _, _, _, _, _, _]) hZ dX7_chance_107 rfl rfl ?_
        refine f_goto (tgt := 87) hZ dX7_chance_109 rfl ?_
        refine f_forget (L' := [_, _, _, _, _, _, _, _, _, _, _, .null, .null]) ⟨Or.inl rfl, Or.inl rfl, Or.inl rfl, Or.inl rfl, Or.inl rfl, Or.inl rfl, Or.inl rfl, Or.inl rfl, Or.inl rfl, Or.inl rfl, Or.inl rfl, Or.inr rfl, Or.inr rfl, trivial⟩ ?_
        have ht := tmodp (a := p) (b := q) (by omega) (by omega)
        exact ih q (p.tmod q) (by omega) (by omega) (by omega) (by omega) (by rw [gcd_step (by omega) (by omega)]; exact hg)
  have loop : ∀ (m : Nat) (w : Int), 0 ≤ w → w + m = n → fG X mX7_chance Z 45 [.ref (xa X 59), .int (iv s), .int (iv n), .int (iv sp), .int (iv pt), .long (jv (sumZ (hitF (M 63) (M 64) (M 65) (M 66) (M 59 12) (M 59 13) s sp) w)), .null, .int (iv w), .null, .null, .null, .null, .null] [] M := by
    intro m
    induction m with
    | zero =>
      intro w h0 hw
      have hOw := hit_rg (M 63) (M 64) (M 65) (M 66) (M 59 12) (M 59 13) s sp h0
      refine f_iload hZ dX7_chance_45 rfl ?_
      refine f_iload_n hZ dX7_chance_47 rfl ?_
      refine f_ige (tgt := 79) hZ dX7_chance_48 rfl (by omega) (by omega) (fun h48 => ?_) (fun h48 => ?_)
      · refine f_lload hZ dX7_chance_79 rfl ?_
        refine f_lstore (L' := [_, _, _, _, _, _, _, _, _, _, _, _, _]) hZ dX7_chance_81 rfl rfl ?_
        refine f_iload_n hZ dX7_chance_83 rfl ?_
        refine f_i2l hZ dX7_chance_84 (by omega) ?_
        refine f_lstore (L' := [_, _, _, _, _, _, _, _, _, _, _, _, _]) hZ dX7_chance_85 rfl rfl ?_
        refine f_forget (L' := [_, _, _, _, _, _, _, _, _, _, _, .null, .null]) ⟨Or.inl rfl, Or.inl rfl, Or.inl rfl, Or.inl rfl, Or.inl rfl, Or.inl rfl, Or.inl rfl, Or.inl rfl, Or.inl rfl, Or.inl rfl, Or.inl rfl, Or.inr rfl, Or.inr rfl, trivial⟩ ?_
        have hwe : w = n := by omega
        subst hwe
        exact gcdl w.toNat (sumZ (hitF (M 63) (M 64) (M 65) (M 66) (M 59 12) (M 59 13) s sp) w) w (by omega) (by omega) (by omega) (by omega) rfl
      · exfalso; omega
    | succ m ih =>
      intro w h0 hw
      have hOw := hit_rg (M 63) (M 64) (M 65) (M 66) (M 59 12) (M 59 13) s sp h0
      refine f_iload hZ dX7_chance_45 rfl ?_
      refine f_iload_n hZ dX7_chance_47 rfl ?_
      refine f_ige (tgt := 79) hZ dX7_chance_48 rfl (by omega) (by omega) (fun h48 => ?_) (fun h48 => ?_)
      · exfalso; omega
      · refine f_lload hZ dX7_chance_51 rfl ?_
        refine f_aload_n hZ dX7_chance_53 rfl ?_
        refine f_iload_n hZ dX7_chance_54 rfl ?_
        refine f_iload hZ dX7_chance_55 rfl ?_
        refine f_iadd hZ dX7_chance_57 ?_
        refine vX7_358 hZ dX7_chance_58 (t_X7_drawn hW) (fun a58 M58 r58 h58 => ?_)
        obtain ⟨e58, h58⟩ := h58
        replace e58 := e58.symm
        subst e58
        subst h58
        refine f_iload_n hZ dX7_chance_61 rfl ?_
        refine f_ine (tgt := 69) hZ dX7_chance_62 rfl (by omega) (by omega) (fun h62 => ?_) (fun h62 => ?_)
        · refine f_lconst0 hZ dX7_chance_69 ?_
          refine f_ladd hZ dX7_chance_70 ?_
          refine f_lstore (L' := [_, _, _, _, _, _, _, _, _, _, _, _, _]) hZ dX7_chance_71 rfl rfl ?_
          refine f_iinc (L' := [_, _, _, _, _, _, _, _, _, _, _, _, _]) hZ dX7_chance_73 rfl rfl ?_
          refine f_goto (tgt := 45) hZ dX7_chance_76 rfl ?_
          have hh := ih (w + 1) (by omega) (by omega)
          rw [sumZ_succ _ (by omega)] at hh
          first | (rw [show hitF (M 63) (M 64) (M 65) (M 66) (M 59 12) (M 59 13) s sp w = 1 from if_pos (by assumption)] at hh; exact hh) | (rw [show hitF (M 63) (M 64) (M 65) (M 66) (M 59 12) (M 59 13) s sp w = 0 from if_neg (by assumption)] at hh; exact hh)
        · refine f_lconst1 hZ dX7_chance_65 ?_
          refine f_goto (tgt := 70) hZ dX7_chance_66 rfl ?_
          refine f_ladd hZ dX7_chance_70 ?_
          refine f_lstore (L' := [_, _, _, _, _, _, _, _, _, _, _, _, _]) hZ dX7_chance_71 rfl rfl ?_
          refine f_iinc (L' := [_, _, _, _, _, _, _, _, _, _, _, _, _]) hZ dX7_chance_73 rfl rfl ?_
          refine f_goto (tgt := 45) hZ dX7_chance_76 rfl ?_
          have hh := ih (w + 1) (by omega) (by omega)
          rw [sumZ_succ _ (by omega)] at hh
          first | (rw [show hitF (M 63) (M 64) (M 65) (M 66) (M 59 12) (M 59 13) s sp w = 1 from if_pos (by assumption)] at hh; exact hh) | (rw [show hitF (M 63) (M 64) (M 65) (M 66) (M 59 12) (M 59 13) s sp w = 0 from if_neg (by assumption)] at hh; exact hh)
  refine f_iload_n hZ dX7_chance_0 rfl ?_
  refine f_i2l hZ dX7_chance_1 (by omega) ?_
  refine f_lconst1 hZ dX7_chance_2 ?_
  refine f_ldc2 (v := (20 : Int64)) hZ (20) dX7_chance_3 (tb_in 1243 (by decide +kernel) (by decide +kernel)) (by decide) ?_
  refine sX7_113 hZ dX7_chance_6 (t_X7_in (by omega) (by omega) (by omega)) (fun a6 M6 r6 h6 => ?_)
  obtain ⟨e6, h6⟩ := h6
  replace e6 := e6.symm
  subst e6
  refine f_eq (tgt := 35) hZ dX7_chance_9 rfl (by omega) (fun h9 => ?_) (fun h9 => ?_)
  · refine f_ldc2 (v := (-4611686018427387904 : Int64)) hZ (-4611686018427387904) dX7_chance_35 (tb_in 1195 (by decide +kernel) (by decide +kernel)) (by decide) ?_
    exact f_retJ hZ hR dX7_chance_38 rfl (by omega) (by exfalso; omega)
  · refine f_iload_n hZ dX7_chance_12 rfl ?_
    refine f_i2l hZ dX7_chance_13 (by omega) ?_
    refine f_lconst0 hZ dX7_chance_14 ?_
    refine f_ldc2 (v := (250 : Int64)) hZ (250) dX7_chance_15 (tb_in 1130 (by decide +kernel) (by decide +kernel)) (by decide) ?_
    refine sX7_113 hZ dX7_chance_18 (t_X7_in (by omega) (by omega) (by omega)) (fun a18 M18 r18 h18 => ?_)
    obtain ⟨e18, h18⟩ := h18
    replace e18 := e18.symm
    subst e18
    refine f_eq (tgt := 35) hZ dX7_chance_21 rfl (by omega) (fun h21 => ?_) (fun h21 => ?_)
    · refine f_ldc2 (v := (-4611686018427387904 : Int64)) hZ (-4611686018427387904) dX7_chance_35 (tb_in 1195 (by decide +kernel) (by decide +kernel)) (by decide) ?_
      exact f_retJ hZ hR dX7_chance_38 rfl (by omega) (by exfalso; omega)
    · refine f_iload hZ dX7_chance_24 rfl ?_
      refine f_i2l hZ dX7_chance_26 (by omega) ?_
      refine f_lconst0 hZ dX7_chance_27 ?_
      refine f_lconst1 hZ dX7_chance_28 ?_
      refine sX7_113 hZ dX7_chance_29 (t_X7_in (by omega) (by omega) (by omega)) (fun a29 M29 r29 h29 => ?_)
      obtain ⟨e29, h29⟩ := h29
      replace e29 := e29.symm
      subst e29
      refine f_ne (tgt := 39) hZ dX7_chance_32 rfl (by omega) (fun h32 => ?_) (fun h32 => ?_)
      · refine f_lconst0 hZ dX7_chance_39 ?_
        refine f_lstore (L' := [_, _, _, _, _, _, _, _, _, _, _, _, _]) hZ dX7_chance_40 rfl rfl ?_
        refine f_iconst hZ dX7_chance_42 ?_
        refine f_istore (L' := [_, _, _, _, _, _, _, _, _, _, _, _, _]) hZ dX7_chance_43 rfl rfl ?_
        exact loop n.toNat 0 (by omega) (by omega)
      · refine f_ldc2 (v := (-4611686018427387904 : Int64)) hZ (-4611686018427387904) dX7_chance_35 (tb_in 1195 (by decide +kernel) (by decide +kernel)) (by decide) ?_
        exact f_retJ hZ hR dX7_chance_38 rfl (by omega) (by exfalso; omega)

def cpB (M : fM) (a b n w : Int) : fM := fun q x => if q = 87 ∧ b + (n - w) ≤ x ∧ x < b + n then M 87 (a + (x - b)) else M q x
theorem cpM_0 {M : fM} {c1 c2 : Nat} {a b : Int} : cpM M c1 c2 a b 0 = M := by funext q x; unfold cpM; rw [if_neg (by omega)]
theorem cpB_0 {M : fM} {a b n : Int} : cpB M a b n 0 = M := by funext q x; unfold cpB; rw [if_neg (by omega)]
theorem cpB_n {M : fM} {a b n : Int} : cpB M a b n n = cpM M 87 87 a b n := by
  funext q x; unfold cpB cpM
  by_cases h : q = 87 ∧ b ≤ x ∧ x < b + n
  · rw [if_pos (by omega), if_pos h]
  · rw [if_neg (by omega), if_neg h]
theorem cpM_rd {M : fM} {a b n w : Int} (h0 : 0 ≤ w) (hn : w < n) (h : b ≤ a ∨ a + n ≤ b) : cpM M 87 87 a b w 87 (a + w) = M 87 (a + w) := by unfold cpM; rw [if_neg (by omega)]
theorem cpM_st {M : fM} {a b w : Int} (h0 : 0 ≤ w) : up (cpM M 87 87 a b w) 87 (b + w) (M 87 (a + w)) = cpM M 87 87 a b (w + 1) := by
  funext q x; unfold up cpM
  by_cases h1 : q = 87 ∧ x = b + w
  · rw [if_pos h1, if_pos (by omega), show a + (x - b) = a + w by omega]
  · rw [if_neg h1]
    by_cases h2 : q = 87 ∧ b ≤ x ∧ x < b + w
    · rw [if_pos h2, if_pos (show q = 87 ∧ b ≤ x ∧ x < b + (w + 1) by omega)]
    · rw [if_neg h2, if_neg (show ¬ (q = 87 ∧ b ≤ x ∧ x < b + (w + 1)) by omega)]
theorem cpB_rd {M : fM} {a b n w e : Int} (he : e = a + (n - 1 - w)) (h : a < b) : cpB M a b n w 87 e = M 87 e := by unfold cpB; rw [if_neg (by omega)]
theorem cpB_st {M : fM} {a b n w e f : Int} (h0 : 0 ≤ w) (hn : w < n) (he : e = b + (n - 1 - w)) (hf : f = a + (n - 1 - w)) : up (cpB M a b n w) 87 e (M 87 f) = cpB M a b n (w + 1) := by
  subst he; subst hf
  funext q x; unfold up cpB
  by_cases h1 : q = 87 ∧ x = b + (n - 1 - w)
  · rw [if_pos h1, if_pos (by omega), show a + (x - b) = a + (n - 1 - w) by omega]
  · rw [if_neg h1]
    by_cases h2 : q = 87 ∧ b + (n - w) ≤ x ∧ x < b + n
    · rw [if_pos h2, if_pos (show q = 87 ∧ b + (n - (w + 1)) ≤ x ∧ x < b + n by omega)]
    · rw [if_neg h2, if_neg (show ¬ (q = 87 ∧ b + (n - (w + 1)) ≤ x ∧ x < b + n) by omega)]
set_option maxRecDepth 20000 in
set_option maxHeartbeats 4000000 in
theorem t_X7_copy {X : fX} {M : fM} {d : Nat} {s i t j n : Int} (hs : rg s) (hi : rg i) (ht : rg t) (hj : rg j) (hn : rg n) (hW : WfT M) : fC X (d + 2) mX7_copy [.ref (xa X 59), .int (iv s), .int (iv i), .int (iv t), .int (iv j), .int (iv n)] M (QI fun r M' => (¬ ((0 ≤ s ∧ s < 4) ∧ (0 ≤ t ∧ t < 4)) ∧ r = -2 ∧ M' = M) ∨ (((0 ≤ s ∧ s < 4) ∧ (0 ≤ t ∧ t < 4)) ∧ (M 84 s = 0 ∨ M 84 t = 0) ∧ r = -11 ∧ M' = M) ∨ (((0 ≤ s ∧ s < 4) ∧ (0 ≤ t ∧ t < 4)) ∧ ¬ (M 84 s = 0 ∨ M 84 t = 0) ∧ M 85 s ≠ M 85 t ∧ r = -13 ∧ M' = M) ∨ (((0 ≤ s ∧ s < 4) ∧ (0 ≤ t ∧ t < 4)) ∧ ¬ (M 84 s = 0 ∨ M 84 t = 0) ∧ M 85 s = M 85 t ∧ ¬ (reachM M s i n ∧ reachM M t j n) ∧ r = -12 ∧ M' = M) ∨ (((0 ≤ s ∧ s < 4) ∧ (0 ≤ t ∧ t < 4)) ∧ ¬ (M 84 s = 0 ∨ M 84 t = 0) ∧ M 85 s = M 85 t ∧ (reachM M s i n ∧ reachM M t j n) ∧ r = n ∧ M' = cpM M 87 87 (40 * s + i) (40 * t + j) n)) := by
  refine fC.of (L := [_, _, _, _, _, _, _, _, _]) (by decide +kernel) rfl (Nat.le_of_ble_eq_true rfl) (fun Z hZ hR => ?_)
  have loopF : ∀ (m : Nat) (w : Int), 0 ≤ w → w + m = n → (((0 ≤ s ∧ s < 4) ∧ (0 ≤ t ∧ t < 4)) ∧ ¬ (M 84 s = 0 ∨ M 84 t = 0) ∧ M 85 s = M 85 t ∧ (reachM M s i n ∧ reachM M t j n)) → (M 86 s ≤ 40 ∧ M 86 t ≤ 40) → ¬ (s = t ∧ i < j) → fG X mX7_copy Z 121 [.ref (xa X 59), .int (iv s), .int (iv i), .int (iv t), .int (iv j), .int (iv n), .int (iv 0), .int (iv w), .null] [] (cpM M 87 87 (40 * s + i) (40 * t + j) w) := by
    intro m
    induction m with
    | zero =>
      intro w h0 hw h5 h40 hup
      refine f_iload hZ dX7_copy_121 rfl ?_
      refine f_iload hZ dX7_copy_123 rfl ?_
      refine f_ige (tgt := 182) hZ dX7_copy_125 rfl (by omega) (by omega) (fun h125 => ?_) (fun h125 => ?_)
      · refine f_iload hZ dX7_copy_182 rfl ?_
        exact f_retI hZ hR dX7_copy_184 rfl (by omega) (by rw [show w = n by omega]; exact Or.inr (Or.inr (Or.inr (Or.inr ⟨h5.1, h5.2.1, h5.2.2.1, h5.2.2.2, rfl, rfl⟩))))
      · exfalso; omega
    | succ m ih =>
      intro w h0 hw h5 h40 hup
      refine f_iload hZ dX7_copy_121 rfl ?_
      refine f_iload hZ dX7_copy_123 rfl ?_
      refine f_ige (tgt := 182) hZ dX7_copy_125 rfl (by omega) (by omega) (fun h125 => ?_) (fun h125 => ?_)
      · exfalso; omega
      · refine f_iload hZ dX7_copy_128 rfl ?_
        refine f_eq (tgt := 143) hZ dX7_copy_130 rfl (by omega) (fun h130 => ?_) (fun h130 => ?_)
        · refine f_iload hZ dX7_copy_143 rfl ?_
          refine f_istore (L' := [_, _, _, _, _, _, _, _, _]) hZ dX7_copy_145 rfl rfl ?_
          refine f_aload_n hZ dX7_copy_147 rfl ?_
          refine gX7_100 hZ dX7_copy_148 ?_
          refine f_bipush hZ dX7_copy_151 ?_
          refine f_iload_n hZ dX7_copy_153 rfl ?_
          refine f_imul hZ dX7_copy_154 ?_
          refine f_iload hZ dX7_copy_155 rfl ?_
          refine f_iadd hZ dX7_copy_157 ?_
          refine f_iload hZ dX7_copy_158 rfl ?_
          refine f_iadd hZ dX7_copy_160 ?_
          refine f_aload_n hZ dX7_copy_161 rfl ?_
          refine gX7_100 hZ dX7_copy_162 ?_
          refine f_bipush hZ dX7_copy_165 ?_
          refine f_iload_n hZ dX7_copy_167 rfl ?_
          refine f_imul hZ dX7_copy_168 ?_
          refine f_iload_n hZ dX7_copy_169 rfl ?_
          refine f_iadd hZ dX7_copy_170 ?_
          refine f_iload hZ dX7_copy_171 rfl ?_
          refine f_iadd hZ dX7_copy_173 ?_
          refine f_iaload hZ dX7_copy_174 (by first | rfl | exact hC.t1 | exact hC.t2 | exact hC.t3 | exact hC.t4 | exact hC.t5) (by first | rfl | exact hC.l1 | exact hC.l2 | exact hC.l3 | exact hC.l4 | exact hC.l5) (by omega) (by omega) (fun r174 => ?_)
          try simp only [cpM_rd h0 (show w < n by omega) (show 40 * t + j ≤ 40 * s + i ∨ 40 * s + i + n ≤ 40 * t + j by omega)] at r174 ⊢
          refine f_iastore hZ dX7_copy_175 (by first | rfl | exact hC.t1 | exact hC.t2 | exact hC.t3 | exact hC.t4 | exact hC.t5) (by first | rfl | exact hC.l1 | exact hC.l2 | exact hC.l3 | exact hC.l4 | exact hC.l5) (by omega) (by omega) (by omega) ?_
          refine f_iinc (L' := [_, _, _, _, _, _, _, _, _]) hZ dX7_copy_176 rfl rfl ?_
          refine f_goto (tgt := 121) hZ dX7_copy_179 rfl ?_
          refine f_forget (L' := [_, _, _, _, _, _, _, _, .null]) ⟨Or.inl rfl, Or.inl rfl, Or.inl rfl, Or.inl rfl, Or.inl rfl, Or.inl rfl, Or.inl rfl, Or.inl rfl, Or.inr rfl, trivial⟩ ?_
          rw [cpM_st h0]
          exact ih (w + 1) (by omega) (by omega) h5 h40 hup
        · exfalso; omega
  have loopB : ∀ (m : Nat) (w : Int), 0 ≤ w → w + m = n → (((0 ≤ s ∧ s < 4) ∧ (0 ≤ t ∧ t < 4)) ∧ ¬ (M 84 s = 0 ∨ M 84 t = 0) ∧ M 85 s = M 85 t ∧ (reachM M s i n ∧ reachM M t j n)) → (M 86 s ≤ 40 ∧ M 86 t ≤ 40) → (s = t ∧ i < j) → fG X mX7_copy Z 121 [.ref (xa X 59), .int (iv s), .int (iv i), .int (iv t), .int (iv j), .int (iv n), .int (iv 1), .int (iv w), .null] [] (cpB M (40 * s + i) (40 * t + j) n w) := by
    intro m
    induction m with
    | zero =>
      intro w h0 hw h5 h40 hup
      refine f_iload hZ dX7_copy_121 rfl ?_
      refine f_iload hZ dX7_copy_123 rfl ?_
      refine f_ige (tgt := 182) hZ dX7_copy_125 rfl (by omega) (by omega) (fun h125 => ?_) (fun h125 => ?_)
      · refine f_iload hZ dX7_copy_182 rfl ?_
        exact f_retI hZ hR dX7_copy_184 rfl (by omega) (by rw [show w = n by omega, cpB_n]; exact Or.inr (Or.inr (Or.inr (Or.inr ⟨h5.1, h5.2.1, h5.2.2.1, h5.2.2.2, rfl, rfl⟩))))
      · exfalso; omega
    | succ m ih =>
      intro w h0 hw h5 h40 hup
      refine f_iload hZ dX7_copy_121 rfl ?_
      refine f_iload hZ dX7_copy_123 rfl ?_
      refine f_ige (tgt := 182) hZ dX7_copy_125 rfl (by omega) (by omega) (fun h125 => ?_) (fun h125 => ?_)
      · exfalso; omega
      · refine f_iload hZ dX7_copy_128 rfl ?_
        refine f_eq (tgt := 143) hZ dX7_copy_130 rfl (by omega) (fun h130 => ?_) (fun h130 => ?_)
        · exfalso; omega
        · refine f_iload hZ dX7_copy_133 rfl ?_
          refine f_iconst hZ dX7_copy_135 ?_
          refine f_isub hZ dX7_copy_136 ?_
          refine f_iload hZ dX7_copy_137 rfl ?_
          refine f_isub hZ dX7_copy_139 ?_
          refine f_goto (tgt := 145) hZ dX7_copy_140 rfl ?_
          refine f_istore (L' := [_, _, _, _, _, _, _, _, _]) hZ dX7_copy_145 rfl rfl ?_
          refine f_aload_n hZ dX7_copy_147 rfl ?_
          refine gX7_100 hZ dX7_copy_148 ?_
          refine f_bipush hZ dX7_copy_151 ?_
          refine f_iload_n hZ dX7_copy_153 rfl ?_
          refine f_imul hZ dX7_copy_154 ?_
          refine f_iload hZ dX7_copy_155 rfl ?_
          refine f_iadd hZ dX7_copy_157 ?_
          refine f_iload hZ dX7_copy_158 rfl ?_
          refine f_iadd hZ dX7_copy_160 ?_
          refine f_aload_n hZ dX7_copy_161 rfl ?_
          refine gX7_100 hZ dX7_copy_162 ?_
          refine f_bipush hZ dX7_copy_165 ?_
          refine f_iload_n hZ dX7_copy_167 rfl ?_
          refine f_imul hZ dX7_copy_168 ?_
          refine f_iload_n hZ dX7_copy_169 rfl ?_
          refine f_iadd hZ dX7_copy_170 ?_
          refine f_iload hZ dX7_copy_171 rfl ?_
          refine f_iadd hZ dX7_copy_173 ?_
          refine f_iaload hZ dX7_copy_174 (by first | rfl | exact hC.t1 | exact hC.t2 | exact hC.t3 | exact hC.t4 | exact hC.t5) (by first | rfl | exact hC.l1 | exact hC.l2 | exact hC.l3 | exact hC.l4 | exact hC.l5) (by omega) (by omega) (fun r174 => ?_)
          try simp only [cpB_rd (show 40 * s + i + (n - 1 - w) = 40 * s + i + (n - 1 - w) by omega) (show 40 * s + i < 40 * t + j by omega)] at r174 ⊢
          refine f_iastore hZ dX7_copy_175 (by first | rfl | exact hC.t1 | exact hC.t2 | exact hC.t3 | exact hC.t4 | exact hC.t5) (by first | rfl | exact hC.l1 | exact hC.l2 | exact hC.l3 | exact hC.l4 | exact hC.l5) (by omega) (by omega) (by omega) ?_
          refine f_iinc (L' := [_, _, _, _, _, _, _, _, _]) hZ dX7_copy_176 rfl rfl ?_
          refine f_goto (tgt := 121) hZ dX7_copy_179 rfl ?_
          refine f_forget (L' := [_, _, _, _, _, _, _, _, .null]) ⟨Or.inl rfl, Or.inl rfl, Or.inl rfl, Or.inl rfl, Or.inl rfl, Or.inl rfl, Or.inl rfl, Or.inl rfl, Or.inr rfl, trivial⟩ ?_
          rw [cpB_st h0 (by omega) (by omega) (by omega)]
          exact ih (w + 1) (by omega) (by omega) h5 h40 hup
  refine f_iload_n hZ dX7_copy_0 rfl ?_
  refine sX7_346 hZ dX7_copy_1 (t_X7_isSheet (by omega)) (fun a1 M1 r1 h1 => ?_)
  obtain ⟨e1, h1⟩ := h1
  replace e1 := e1.symm
  subst e1
  refine f_eq (tgt := 14) hZ dX7_copy_4 rfl (by omega) (fun h4 => ?_) (fun h4 => ?_)
  · refine f_bipush hZ dX7_copy_14 ?_
    exact f_retI hZ hR dX7_copy_16 rfl (by omega) (by first | exact Or.inl ⟨by omega, rfl, rfl⟩ | exact Or.inr (Or.inl ⟨by omega, by omega, rfl, rfl⟩) | exact Or.inr (Or.inr (Or.inl ⟨by omega, by omega, by omega, rfl, rfl⟩)) | exact Or.inr (Or.inr (Or.inr (Or.inl ⟨by omega, by omega, by omega, by omega, rfl, rfl⟩))))
  · refine f_iload_n hZ dX7_copy_7 rfl ?_
    refine sX7_346 hZ dX7_copy_8 (t_X7_isSheet (by omega)) (fun a8 M8 r8 h8 => ?_)
    obtain ⟨e8, h8⟩ := h8
    replace e8 := e8.symm
    subst e8
    refine f_ne (tgt := 17) hZ dX7_copy_11 rfl (by omega) (fun h11 => ?_) (fun h11 => ?_)
    · have hq1 := hW s (by omega) (by omega)
      have hq2 := hW t (by omega) (by omega)
      refine f_aload_n hZ dX7_copy_17 rfl ?_
      refine gX7_90 hZ dX7_copy_18 ?_
      refine f_iload_n hZ dX7_copy_21 rfl ?_
      refine f_baload hZ dX7_copy_22 (by first | rfl | exact hC.t1 | exact hC.t2 | exact hC.t3 | exact hC.t4 | exact hC.t5) (by first | rfl | exact hC.l1 | exact hC.l2 | exact hC.l3 | exact hC.l4 | exact hC.l5) (by omega) (by omega) (fun r22 => ?_)
      refine f_eq (tgt := 35) hZ dX7_copy_23 rfl (by omega) (fun h23 => ?_) (fun h23 => ?_)
      · refine f_bipush hZ dX7_copy_35 ?_
        exact f_retI hZ hR dX7_copy_37 rfl (by omega) (by first | exact Or.inl ⟨by omega, rfl, rfl⟩ | exact Or.inr (Or.inl ⟨by omega, by omega, rfl, rfl⟩) | exact Or.inr (Or.inr (Or.inl ⟨by omega, by omega, by omega, rfl, rfl⟩)) | exact Or.inr (Or.inr (Or.inr (Or.inl ⟨by omega, by omega, by omega, by omega, rfl, rfl⟩))))
      · refine f_aload_n hZ dX7_copy_26 rfl ?_
        refine gX7_90 hZ dX7_copy_27 ?_
        refine f_iload_n hZ dX7_copy_30 rfl ?_
        refine f_baload hZ dX7_copy_31 (by first | rfl | exact hC.t1 | exact hC.t2 | exact hC.t3 | exact hC.t4 | exact hC.t5) (by first | rfl | exact hC.l1 | exact hC.l2 | exact hC.l3 | exact hC.l4 | exact hC.l5) (by omega) (by omega) (fun r31 => ?_)
        refine f_ne (tgt := 38) hZ dX7_copy_32 rfl (by omega) (fun h32 => ?_) (fun h32 => ?_)
        · refine f_aload_n hZ dX7_copy_38 rfl ?_
          refine gX7_94 hZ dX7_copy_39 ?_
          refine f_iload_n hZ dX7_copy_42 rfl ?_
          refine f_iaload hZ dX7_copy_43 (by first | rfl | exact hC.t1 | exact hC.t2 | exact hC.t3 | exact hC.t4 | exact hC.t5) (by first | rfl | exact hC.l1 | exact hC.l2 | exact hC.l3 | exact hC.l4 | exact hC.l5) (by omega) (by omega) (fun r43 => ?_)
          refine f_aload_n hZ dX7_copy_44 rfl ?_
          refine gX7_94 hZ dX7_copy_45 ?_
          refine f_iload_n hZ dX7_copy_48 rfl ?_
          refine f_iaload hZ dX7_copy_49 (by first | rfl | exact hC.t1 | exact hC.t2 | exact hC.t3 | exact hC.t4 | exact hC.t5) (by first | rfl | exact hC.l1 | exact hC.l2 | exact hC.l3 | exact hC.l4 | exact hC.l5) (by omega) (by omega) (fun r49 => ?_)
          refine f_ieq (tgt := 56) hZ dX7_copy_50 rfl (by omega) (by omega) (fun h50 => ?_) (fun h50 => ?_)
          · refine f_iload hZ dX7_copy_56 rfl ?_
            refine f_lt (tgt := 97) hZ dX7_copy_58 rfl (by omega) (fun h58 => ?_) (fun h58 => ?_)
            · refine f_bipush hZ dX7_copy_97 ?_
              exact f_retI hZ hR dX7_copy_99 rfl (by omega) (by first | exact Or.inl ⟨by omega, rfl, rfl⟩ | exact Or.inr (Or.inl ⟨by omega, by omega, rfl, rfl⟩) | exact Or.inr (Or.inr (Or.inl ⟨by omega, by omega, by omega, rfl, rfl⟩)) | exact Or.inr (Or.inr (Or.inr (Or.inl ⟨by omega, by omega, by omega, by omega, rfl, rfl⟩))))
            · refine f_iload_n hZ dX7_copy_61 rfl ?_
              refine f_lt (tgt := 97) hZ dX7_copy_62 rfl (by omega) (fun h62 => ?_) (fun h62 => ?_)
              · refine f_bipush hZ dX7_copy_97 ?_
                exact f_retI hZ hR dX7_copy_99 rfl (by omega) (by first | exact Or.inl ⟨by omega, rfl, rfl⟩ | exact Or.inr (Or.inl ⟨by omega, by omega, rfl, rfl⟩) | exact Or.inr (Or.inr (Or.inl ⟨by omega, by omega, by omega, rfl, rfl⟩)) | exact Or.inr (Or.inr (Or.inr (Or.inl ⟨by omega, by omega, by omega, by omega, rfl, rfl⟩))))
              · refine f_iload hZ dX7_copy_65 rfl ?_
                refine f_lt (tgt := 97) hZ dX7_copy_67 rfl (by omega) (fun h67 => ?_) (fun h67 => ?_)
                · refine f_bipush hZ dX7_copy_97 ?_
                  exact f_retI hZ hR dX7_copy_99 rfl (by omega) (by first | exact Or.inl ⟨by omega, rfl, rfl⟩ | exact Or.inr (Or.inl ⟨by omega, by omega, rfl, rfl⟩) | exact Or.inr (Or.inr (Or.inl ⟨by omega, by omega, by omega, rfl, rfl⟩)) | exact Or.inr (Or.inr (Or.inr (Or.inl ⟨by omega, by omega, by omega, by omega, rfl, rfl⟩))))
                · refine f_iload_n hZ dX7_copy_70 rfl ?_
                  refine f_aload_n hZ dX7_copy_71 rfl ?_
                  refine gX7_97 hZ dX7_copy_72 ?_
                  refine f_iload_n hZ dX7_copy_75 rfl ?_
                  refine f_iaload hZ dX7_copy_76 (by first | rfl | exact hC.t1 | exact hC.t2 | exact hC.t3 | exact hC.t4 | exact hC.t5) (by first | rfl | exact hC.l1 | exact hC.l2 | exact hC.l3 | exact hC.l4 | exact hC.l5) (by omega) (by omega) (fun r76 => ?_)
                  refine f_iload hZ dX7_copy_77 rfl ?_
                  refine f_isub hZ dX7_copy_79 ?_
                  refine f_igt (tgt := 97) hZ dX7_copy_80 rfl (by omega) (by omega) (fun h80 => ?_) (fun h80 => ?_)
                  · refine f_bipush hZ dX7_copy_97 ?_
                    exact f_retI hZ hR dX7_copy_99 rfl (by omega) (by first | exact Or.inl ⟨by omega, rfl, rfl⟩ | exact Or.inr (Or.inl ⟨by omega, by omega, rfl, rfl⟩) | exact Or.inr (Or.inr (Or.inl ⟨by omega, by omega, by omega, rfl, rfl⟩)) | exact Or.inr (Or.inr (Or.inr (Or.inl ⟨by omega, by omega, by omega, by omega, rfl, rfl⟩))))
                  · refine f_iload hZ dX7_copy_83 rfl ?_
                    refine f_aload_n hZ dX7_copy_85 rfl ?_
                    refine gX7_97 hZ dX7_copy_86 ?_
                    refine f_iload_n hZ dX7_copy_89 rfl ?_
                    refine f_iaload hZ dX7_copy_90 (by first | rfl | exact hC.t1 | exact hC.t2 | exact hC.t3 | exact hC.t4 | exact hC.t5) (by first | rfl | exact hC.l1 | exact hC.l2 | exact hC.l3 | exact hC.l4 | exact hC.l5) (by omega) (by omega) (fun r90 => ?_)
                    refine f_iload hZ dX7_copy_91 rfl ?_
                    refine f_isub hZ dX7_copy_93 ?_
                    refine f_ile (tgt := 100) hZ dX7_copy_94 rfl (by omega) (by omega) (fun h94 => ?_) (fun h94 => ?_)
                    · refine f_iload_n hZ dX7_copy_100 rfl ?_
                      refine f_iload_n hZ dX7_copy_101 rfl ?_
                      refine f_ine (tgt := 115) hZ dX7_copy_102 rfl (by omega) (by omega) (fun h102 => ?_) (fun h102 => ?_)
                      · refine f_iconst hZ dX7_copy_115 ?_
                        refine f_istore (L' := [_, _, _, _, _, _, _, _, _]) hZ dX7_copy_116 rfl rfl ?_
                        refine f_iconst hZ dX7_copy_118 ?_
                        refine f_istore (L' := [_, _, _, _, _, _, _, _, _]) hZ dX7_copy_119 rfl rfl ?_
                        first
                          | (have hh := loopF n.toNat 0 (by omega) (by omega) ⟨by omega, by omega, by omega, by omega⟩ (by omega) (by omega); rw [cpM_0] at hh; exact hh)
                          | (have hh := loopB n.toNat 0 (by omega) (by omega) ⟨by omega, by omega, by omega, by omega⟩ (by omega) (by omega); rw [cpB_0] at hh; exact hh)
                      · refine f_iload_n hZ dX7_copy_105 rfl ?_
                        refine f_iload hZ dX7_copy_106 rfl ?_
                        refine f_ige (tgt := 115) hZ dX7_copy_108 rfl (by omega) (by omega) (fun h108 => ?_) (fun h108 => ?_)
                        · refine f_iconst hZ dX7_copy_115 ?_
                          refine f_istore (L' := [_, _, _, _, _, _, _, _, _]) hZ dX7_copy_116 rfl rfl ?_
                          refine f_iconst hZ dX7_copy_118 ?_
                          refine f_istore (L' := [_, _, _, _, _, _, _, _, _]) hZ dX7_copy_119 rfl rfl ?_
                          first
                            | (have hh := loopF n.toNat 0 (by omega) (by omega) ⟨by omega, by omega, by omega, by omega⟩ (by omega) (by omega); rw [cpM_0] at hh; exact hh)
                            | (have hh := loopB n.toNat 0 (by omega) (by omega) ⟨by omega, by omega, by omega, by omega⟩ (by omega) (by omega); rw [cpB_0] at hh; exact hh)
                        · refine f_iconst hZ dX7_copy_111 ?_
                          refine f_goto (tgt := 116) hZ dX7_copy_112 rfl ?_
                          refine f_istore (L' := [_, _, _, _, _, _, _, _, _]) hZ dX7_copy_116 rfl rfl ?_
                          refine f_iconst hZ dX7_copy_118 ?_
                          refine f_istore (L' := [_, _, _, _, _, _, _, _, _]) hZ dX7_copy_119 rfl rfl ?_
                          first
                            | (have hh := loopF n.toNat 0 (by omega) (by omega) ⟨by omega, by omega, by omega, by omega⟩ (by omega) (by omega); rw [cpM_0] at hh; exact hh)
                            | (have hh := loopB n.toNat 0 (by omega) (by omega) ⟨by omega, by omega, by omega, by omega⟩ (by omega) (by omega); rw [cpB_0] at hh; exact hh)
                    · refine f_bipush hZ dX7_copy_97 ?_
                      exact f_retI hZ hR dX7_copy_99 rfl (by omega) (by first | exact Or.inl ⟨by omega, rfl, rfl⟩ | exact Or.inr (Or.inl ⟨by omega, by omega, rfl, rfl⟩) | exact Or.inr (Or.inr (Or.inl ⟨by omega, by omega, by omega, rfl, rfl⟩)) | exact Or.inr (Or.inr (Or.inr (Or.inl ⟨by omega, by omega, by omega, by omega, rfl, rfl⟩))))
          · refine f_bipush hZ dX7_copy_53 ?_
            exact f_retI hZ hR dX7_copy_55 rfl (by omega) (by first | exact Or.inl ⟨by omega, rfl, rfl⟩ | exact Or.inr (Or.inl ⟨by omega, by omega, rfl, rfl⟩) | exact Or.inr (Or.inr (Or.inl ⟨by omega, by omega, by omega, rfl, rfl⟩)) | exact Or.inr (Or.inr (Or.inr (Or.inl ⟨by omega, by omega, by omega, by omega, rfl, rfl⟩))))
        · refine f_bipush hZ dX7_copy_35 ?_
          exact f_retI hZ hR dX7_copy_37 rfl (by omega) (by first | exact Or.inl ⟨by omega, rfl, rfl⟩ | exact Or.inr (Or.inl ⟨by omega, by omega, rfl, rfl⟩) | exact Or.inr (Or.inr (Or.inl ⟨by omega, by omega, by omega, rfl, rfl⟩)) | exact Or.inr (Or.inr (Or.inr (Or.inl ⟨by omega, by omega, by omega, by omega, rfl, rfl⟩))))
    · refine f_bipush hZ dX7_copy_14 ?_
      exact f_retI hZ hR dX7_copy_16 rfl (by omega) (by first | exact Or.inl ⟨by omega, rfl, rfl⟩ | exact Or.inr (Or.inl ⟨by omega, by omega, rfl, rfl⟩) | exact Or.inr (Or.inr (Or.inl ⟨by omega, by omega, by omega, rfl, rfl⟩)) | exact Or.inr (Or.inr (Or.inr (Or.inl ⟨by omega, by omega, by omega, by omega, rfl, rfl⟩))))

