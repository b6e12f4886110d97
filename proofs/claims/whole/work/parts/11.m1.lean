theorem rg_tdiv {a b : Int} (ha : 0 ≤ a ∧ a ≤ 100000) (hb : 1 ≤ b) : rg (a.tdiv b) := by
  have h1 : a.tdiv b ≤ a := Int.tdiv_le_self b ha.1
  have h2 : 0 ≤ a.tdiv b := Int.tdiv_nonneg ha.1 (by omega)
  omega
set_option maxRecDepth 20000 in
set_option maxHeartbeats 4000000 in
theorem t_X7_in {X : fX} {M : fM} {d : Nat} {v a b : Int} (hv : rj v) (ha : rj a) (hb : rj b) : fC X d mX7_in [.long (jv v), .long (jv a), .long (jv b)] M (QI fun r M' => M' = M ∧ bz r (a ≤ v ∧ v ≤ b)) := by
  refine fC.of (L := [_, _, _, _, _, _]) (by decide +kernel) rfl (Nat.le_of_ble_eq_true rfl) (fun Z hZ hR => ?_)
  refine f_lload_n hZ dX7_in_0 rfl ?_
  refine f_lload_n hZ dX7_in_1 rfl ?_
  refine f_lcmp hZ dX7_in_2 (by omega) (by omega) ?_
  refine f_lt (tgt := 17) hZ dX7_in_3 rfl (rg_cmpJ _ _) (fun h3 => ?_) (fun h3 => ?_)
  · simp only [cmpJ_lt, cmpJ_gt, cmpJ_eq, cmpJ_ge, cmpJ_le] at h3
    refine f_iconst hZ dX7_in_17 ?_
    exact f_retZ hZ hR dX7_in_18 rfl (by omega) (by exact ⟨rfl, by omega⟩)
  · simp only [cmpJ_lt, cmpJ_gt, cmpJ_eq, cmpJ_ge, cmpJ_le] at h3
    refine f_lload_n hZ dX7_in_6 rfl ?_
    refine f_lload hZ dX7_in_7 rfl ?_
    refine f_lcmp hZ dX7_in_9 (by omega) (by omega) ?_
    refine f_gt (tgt := 17) hZ dX7_in_10 rfl (rg_cmpJ _ _) (fun h10 => ?_) (fun h10 => ?_)
    · simp only [cmpJ_lt, cmpJ_gt, cmpJ_eq, cmpJ_ge, cmpJ_le] at h10
      refine f_iconst hZ dX7_in_17 ?_
      exact f_retZ hZ hR dX7_in_18 rfl (by omega) (by exact ⟨rfl, by omega⟩)
    · simp only [cmpJ_lt, cmpJ_gt, cmpJ_eq, cmpJ_ge, cmpJ_le] at h10
      refine f_iconst hZ dX7_in_13 ?_
      refine f_goto (tgt := 18) hZ dX7_in_14 rfl ?_
      exact f_retZ hZ hR dX7_in_18 rfl (by omega) (by exact ⟨rfl, by omega⟩)

set_option maxRecDepth 20000 in
set_option maxHeartbeats 4000000 in
theorem t_X7_within {X : fX} {M : fM} {d : Nat} {v a b : Int} (hv : rg v) (ha : rg a) (hb : rg b) : fC X d mX7_within [.int (iv v), .int (iv a), .int (iv b)] M (QI fun r M' => M' = M ∧ ((v < a ∧ r = a) ∨ (¬ v < a ∧ b < v ∧ r = b) ∨ (¬ v < a ∧ ¬ b < v ∧ r = v))) := by
  refine fC.of (L := [_, _, _]) (by decide +kernel) rfl (Nat.le_of_ble_eq_true rfl) (fun Z hZ hR => ?_)
  refine f_iload_n hZ dX7_within_0 rfl ?_
  refine f_iload_n hZ dX7_within_1 rfl ?_
  refine f_ige (tgt := 9) hZ dX7_within_2 rfl (by omega) (by omega) (fun h2 => ?_) (fun h2 => ?_)
  · refine f_iload_n hZ dX7_within_9 rfl ?_
    refine f_iload_n hZ dX7_within_10 rfl ?_
    refine f_ile (tgt := 18) hZ dX7_within_11 rfl (by omega) (by omega) (fun h11 => ?_) (fun h11 => ?_)
    · refine f_iload_n hZ dX7_within_18 rfl ?_
      exact f_retI hZ hR dX7_within_19 rfl (by omega) (by exact ⟨rfl, by omega⟩)
    · refine f_iload_n hZ dX7_within_14 rfl ?_
      refine f_goto (tgt := 19) hZ dX7_within_15 rfl ?_
      exact f_retI hZ hR dX7_within_19 rfl (by omega) (by exact ⟨rfl, by omega⟩)
  · refine f_iload_n hZ dX7_within_5 rfl ?_
    refine f_goto (tgt := 19) hZ dX7_within_6 rfl ?_
    exact f_retI hZ hR dX7_within_19 rfl (by omega) (by exact ⟨rfl, by omega⟩)

set_option maxRecDepth 20000 in
set_option maxHeartbeats 4000000 in
theorem t_X7_isWick {X : fX} {M : fM} {d : Nat} {w : Int} (hw : rg w) (hn : 0 ≤ M 59 12 ∧ M 59 12 ≤ 4) : fC X (d + 1) mX7_isWick [.ref (xa X 59), .int (iv w)] M (QI fun r M' => M' = M ∧ bz r (0 ≤ w ∧ w < M 59 12)) := by
  refine fC.of (L := [_, _]) (by decide +kernel) rfl (Nat.le_of_ble_eq_true rfl) (fun Z hZ hR => ?_)
  refine f_iload_n hZ dX7_isWick_0 rfl ?_
  refine f_i2l hZ dX7_isWick_1 (by omega) ?_
  refine f_lconst0 hZ dX7_isWick_2 ?_
  refine f_aload_n hZ dX7_isWick_3 rfl ?_
  refine gX7_110 hZ dX7_isWick_4 (fun r4 => ?_)
  refine f_iconst hZ dX7_isWick_7 ?_
  refine f_isub hZ dX7_isWick_8 ?_
  refine f_i2l hZ dX7_isWick_9 (by omega) ?_
  refine sX7_113 hZ dX7_isWick_10 (t_X7_in (by omega) (by omega) (by omega)) (fun a10 M10 r10 h10 => ?_)
  obtain ⟨e10, h10⟩ := h10
  replace e10 := e10.symm
  subst e10
  exact f_retZ hZ hR dX7_isWick_13 rfl (by omega) (by exact ⟨rfl, by omega⟩)

set_option maxRecDepth 20000 in
set_option maxHeartbeats 4000000 in
theorem t_X7_until {X : fX} {M : fM} {d : Nat} {a b : Int} (ha : 0 ≤ a ∧ a ≤ 1000) (hb : 1 ≤ b ∧ b ≤ 1000) : fC X d mX7_until [.int (iv a), .int (iv b)] M (QI fun r M' => M' = M ∧ r = (a + b - 1).tdiv b) := by
  refine fC.of (L := [_, _]) (by decide +kernel) rfl (Nat.le_of_ble_eq_true rfl) (fun Z hZ hR => ?_)
  refine f_iload_n hZ dX7_until_0 rfl ?_
  refine f_iload_n hZ dX7_until_1 rfl ?_
  refine f_iadd hZ dX7_until_2 ?_
  refine f_iconst hZ dX7_until_3 ?_
  refine f_isub hZ dX7_until_4 ?_
  refine f_iload_n hZ dX7_until_5 rfl ?_
  refine f_idiv hZ dX7_until_6 (by first | omega | exact rg_tdiv (by omega) (by omega)) (by first | omega | exact rg_tdiv (by omega) (by omega)) (by first | omega | exact rg_tdiv (by omega) (by omega)) (by first | omega | exact rg_tdiv (by omega) (by omega)) ?_
  exact f_retI hZ hR dX7_until_7 rfl (by first | omega | exact rg_tdiv (by omega) (by omega)) (by exact ⟨rfl, rfl⟩)

def wickM (M : fM) (k n p : Int) : fM := up (up (up (up (up (up M 63 (M 59 12) k) 64 (M 59 12) n) 65 (M 59 12) p) 66 (M 59 12) 0) 67 (M 59 12) 0) 59 12 (M 59 12 + 1)
abbrev wickOk (k n p : Int) : Prop := 0 ≤ k ∧ k ≤ 5 ∧ 0 ≤ n ∧ n ≤ 9 ∧ 1 ≤ p ∧ p ≤ 99
set_option maxRecDepth 20000 in
set_option maxHeartbeats 4000000 in
theorem t_X7_wick {X : fX} {M : fM} {d : Nat} {k n p : Int} (hk : rg k) (hnu : rg n) (hp : rg p) (hn : 0 ≤ M 59 12 ∧ M 59 12 ≤ 4) : fC X (d + 1) mX7_wick [.ref (xa X 59), .int (iv k), .int (iv n), .int (iv p)] M (QI fun r M' => (¬ wickOk k n p ∧ r = -2 ∧ M' = M) ∨ (wickOk k n p ∧ M 59 12 = 4 ∧ r = -4 ∧ M' = M) ∨ (wickOk k n p ∧ M 59 12 < 4 ∧ r = M 59 12 ∧ M' = wickM M k n p)) := by
  refine fC.of (L := [_, _, _, _]) (by decide +kernel) rfl (Nat.le_of_ble_eq_true rfl) (fun Z hZ hR => ?_)
  refine f_iload_n hZ dX7_wick_0 rfl ?_
  refine f_i2l hZ dX7_wick_1 (by omega) ?_
  refine f_lconst0 hZ dX7_wick_2 ?_
  refine f_ldc2 (v := (5 : Int64)) hZ (5) dX7_wick_3 (tb_in 1004 (by decide +kernel) (by decide +kernel)) (by decide) ?_
  refine sX7_113 hZ dX7_wick_6 (t_X7_in (by omega) (by omega) (by omega)) (fun a6 M6 r6 h6 => ?_)
  obtain ⟨e6, h6⟩ := h6
  replace e6 := e6.symm
  subst e6
  refine f_eq (tgt := 36) hZ dX7_wick_9 rfl (by omega) (fun h9 => ?_) (fun h9 => ?_)
  · refine f_bipush hZ dX7_wick_36 ?_
    exact f_retI hZ hR dX7_wick_38 rfl (by omega) (by first | exact Or.inl ⟨by omega, rfl, rfl⟩ | exact Or.inr (Or.inl ⟨by omega, by omega, rfl, rfl⟩) | exact Or.inr (Or.inr ⟨by omega, by omega, by omega, rfl⟩))
  · refine f_iload_n hZ dX7_wick_12 rfl ?_
    refine f_i2l hZ dX7_wick_13 (by omega) ?_
    refine f_lconst0 hZ dX7_wick_14 ?_
    refine f_ldc2 (v := (9 : Int64)) hZ (9) dX7_wick_15 (tb_in 1008 (by decide +kernel) (by decide +kernel)) (by decide) ?_
    refine sX7_113 hZ dX7_wick_18 (t_X7_in (by omega) (by omega) (by omega)) (fun a18 M18 r18 h18 => ?_)
    obtain ⟨e18, h18⟩ := h18
    replace e18 := e18.symm
    subst e18
    refine f_eq (tgt := 36) hZ dX7_wick_21 rfl (by omega) (fun h21 => ?_) (fun h21 => ?_)
    · refine f_bipush hZ dX7_wick_36 ?_
      exact f_retI hZ hR dX7_wick_38 rfl (by omega) (by first | exact Or.inl ⟨by omega, rfl, rfl⟩ | exact Or.inr (Or.inl ⟨by omega, by omega, rfl, rfl⟩) | exact Or.inr (Or.inr ⟨by omega, by omega, by omega, rfl⟩))
    · refine f_iload_n hZ dX7_wick_24 rfl ?_
      refine f_i2l hZ dX7_wick_25 (by omega) ?_
      refine f_lconst1 hZ dX7_wick_26 ?_
      refine f_ldc2 (v := (99 : Int64)) hZ (99) dX7_wick_27 (tb_in 1009 (by decide +kernel) (by decide +kernel)) (by decide) ?_
      refine sX7_113 hZ dX7_wick_30 (t_X7_in (by omega) (by omega) (by omega)) (fun a30 M30 r30 h30 => ?_)
      obtain ⟨e30, h30⟩ := h30
      replace e30 := e30.symm
      subst e30
      refine f_ne (tgt := 39) hZ dX7_wick_33 rfl (by omega) (fun h33 => ?_) (fun h33 => ?_)
      · refine f_aload_n hZ dX7_wick_39 rfl ?_
        refine gX7_110 hZ dX7_wick_40 (fun r40 => ?_)
        refine f_iconst hZ dX7_wick_43 ?_
        refine f_ine (tgt := 50) hZ dX7_wick_44 rfl (by omega) (by omega) (fun h44 => ?_) (fun h44 => ?_)
        · refine f_aload_n hZ dX7_wick_50 rfl ?_
          refine gX7_23 hZ dX7_wick_51 ?_
          refine f_aload_n hZ dX7_wick_54 rfl ?_
          refine gX7_110 hZ dX7_wick_55 (fun r55 => ?_)
          refine f_iload_n hZ dX7_wick_58 rfl ?_
          refine f_iastore hZ dX7_wick_59 (by first | rfl | exact hC.t1 | exact hC.t2 | exact hC.t3 | exact hC.t4 | exact hC.t5) (by first | rfl | exact hC.l1 | exact hC.l2 | exact hC.l3 | exact hC.l4 | exact hC.l5) (by omega) (by omega) (by omega) ?_
          refine f_aload_n hZ dX7_wick_60 rfl ?_
          refine gX7_26 hZ dX7_wick_61 ?_
          refine f_aload_n hZ dX7_wick_64 rfl ?_
          refine gX7_110 hZ dX7_wick_65 (fun r65 => ?_)
          try simp only [up_app, Nat.reduceEqDiff, Nat.reduceEqDiff, Int.reduceEq, and_true, true_and, and_false, false_and, if_true, if_false, reduceIte] at r65 ⊢
          refine f_iload_n hZ dX7_wick_68 rfl ?_
          refine f_iastore hZ dX7_wick_69 (by first | rfl | exact hC.t1 | exact hC.t2 | exact hC.t3 | exact hC.t4 | exact hC.t5) (by first | rfl | exact hC.l1 | exact hC.l2 | exact hC.l3 | exact hC.l4 | exact hC.l5) (by omega) (by omega) (by omega) ?_
          refine f_aload_n hZ dX7_wick_70 rfl ?_
          refine gX7_29 hZ dX7_wick_71 ?_
          refine f_aload_n hZ dX7_wick_74 rfl ?_
          refine gX7_110 hZ dX7_wick_75 (fun r75 => ?_)
          try simp only [up_app, Nat.reduceEqDiff, Nat.reduceEqDiff, Int.reduceEq, and_true, true_and, and_false, false_and, if_true, if_false, reduceIte] at r75 ⊢
          refine f_iload_n hZ dX7_wick_78 rfl ?_
          refine f_iastore hZ dX7_wick_79 (by first | rfl | exact hC.t1 | exact hC.t2 | exact hC.t3 | exact hC.t4 | exact hC.t5) (by first | rfl | exact hC.l1 | exact hC.l2 | exact hC.l3 | exact hC.l4 | exact hC.l5) (by omega) (by omega) (by omega) ?_
          refine f_aload_n hZ dX7_wick_80 rfl ?_
          refine gX7_32 hZ dX7_wick_81 ?_
          refine f_aload_n hZ dX7_wick_84 rfl ?_
          refine gX7_110 hZ dX7_wick_85 (fun r85 => ?_)
          try simp only [up_app, Nat.reduceEqDiff, Nat.reduceEqDiff, Int.reduceEq, and_true, true_and, and_false, false_and, if_true, if_false, reduceIte] at r85 ⊢
          refine f_iconst hZ dX7_wick_88 ?_
          refine f_iastore hZ dX7_wick_89 (by first | rfl | exact hC.t1 | exact hC.t2 | exact hC.t3 | exact hC.t4 | exact hC.t5) (by first | rfl | exact hC.l1 | exact hC.l2 | exact hC.l3 | exact hC.l4 | exact hC.l5) (by omega) (by omega) (by omega) ?_
          refine f_aload_n hZ dX7_wick_90 rfl ?_
          refine gX7_35 hZ dX7_wick_91 ?_
          refine f_aload_n hZ dX7_wick_94 rfl ?_
          refine gX7_110 hZ dX7_wick_95 (fun r95 => ?_)
          try simp only [up_app, Nat.reduceEqDiff, Nat.reduceEqDiff, Int.reduceEq, and_true, true_and, and_false, false_and, if_true, if_false, reduceIte] at r95 ⊢
          refine f_iconst hZ dX7_wick_98 ?_
          refine f_iastore hZ dX7_wick_99 (by first | rfl | exact hC.t1 | exact hC.t2 | exact hC.t3 | exact hC.t4 | exact hC.t5) (by first | rfl | exact hC.l1 | exact hC.l2 | exact hC.l3 | exact hC.l4 | exact hC.l5) (by omega) (by omega) (by omega) ?_
          refine f_aload_n hZ dX7_wick_100 rfl ?_
          refine f_dup hZ dX7_wick_101 rfl ?_
          refine gX7_110 hZ dX7_wick_102 (fun r102 => ?_)
          try simp only [up_app, Nat.reduceEqDiff, Nat.reduceEqDiff, Int.reduceEq, and_true, true_and, and_false, false_and, if_true, if_false, reduceIte] at r102 ⊢
          refine f_iconst hZ dX7_wick_105 ?_
          refine f_iadd hZ dX7_wick_106 ?_
          refine pX7_110 hZ dX7_wick_107 (by omega) ?_
          refine f_aload_n hZ dX7_wick_110 rfl ?_
          refine gX7_110 hZ dX7_wick_111 (fun r111 => ?_)
          try simp only [up_app, Nat.reduceEqDiff, Nat.reduceEqDiff, Int.reduceEq, and_true, true_and, and_false, false_and, if_true, if_false, reduceIte] at r111 ⊢
          refine f_iconst hZ dX7_wick_114 ?_
          refine f_isub hZ dX7_wick_115 ?_
          exact f_retI hZ hR dX7_wick_116 rfl (by omega) (by first | exact Or.inl ⟨by omega, rfl, rfl⟩ | exact Or.inr (Or.inl ⟨by omega, by omega, rfl, rfl⟩) | exact Or.inr (Or.inr ⟨by omega, by omega, by omega, rfl⟩))
        · refine f_bipush hZ dX7_wick_47 ?_
          exact f_retI hZ hR dX7_wick_49 rfl (by omega) (by first | exact Or.inl ⟨by omega, rfl, rfl⟩ | exact Or.inr (Or.inl ⟨by omega, by omega, rfl, rfl⟩) | exact Or.inr (Or.inr ⟨by omega, by omega, by omega, rfl⟩))
      · refine f_bipush hZ dX7_wick_36 ?_
        exact f_retI hZ hR dX7_wick_38 rfl (by omega) (by first | exact Or.inl ⟨by omega, rfl, rfl⟩ | exact Or.inr (Or.inl ⟨by omega, by omega, rfl, rfl⟩) | exact Or.inr (Or.inr ⟨by omega, by omega, by omega, rfl⟩))

