set_option maxRecDepth 20000 in
set_option maxHeartbeats 4000000 in
theorem t_X7_count {X : fX} {M : fM} {d : Nat} {q : Int} (hq : rg q) (hW : WfM M) : fC X (d + 1) mX7_count [.ref (xa X 59), .int (iv q)] M (QI fun r M' => M' = M ∧ r = countZ (M 59 12) (M 65) (M 66) (M 59 13) (M 59 14) (M 59 3) (M 59 6) (M 59 4) q) := by
  obtain ⟨hn, hdm, hmo, hA⟩ := hW
  refine fC.of (L := [_, _, _, _, _]) (by decide +kernel) rfl (Nat.le_of_ble_eq_true rfl) (fun Z hZ hR => ?_)
  rcases (show (q < 0 ∨ 7 < q) ∨ q = 0 ∨ q = 1 ∨ q = 2 ∨ q = 3 ∨ q = 4 ∨ q = 5 ∨ q = 6 ∨ q = 7 by omega) with hqq | rfl | rfl | rfl | rfl | rfl | rfl | rfl | rfl
  · refine f_iload_n hZ dX7_count_0 rfl ?_
    refine f_i2l hZ dX7_count_1 (by omega) ?_
    refine f_lconst0 hZ dX7_count_2 ?_
    refine f_ldc2 (v := (7 : Int64)) hZ (7) dX7_count_3 (tb_in 1257 (by decide +kernel) (by decide +kernel)) (by decide) ?_
    refine sX7_113 hZ dX7_count_6 (t_X7_in (by omega) (by omega) (by omega)) (fun a6 M6 r6 h6 => ?_)
    obtain ⟨e6, h6⟩ := h6
    replace e6 := e6.symm
    subst e6
    refine f_ne (tgt := 15) hZ dX7_count_9 rfl (by omega) (fun h9 => ?_) (fun h9 => ?_)
    · exfalso; omega
    · refine f_bipush hZ dX7_count_12 ?_
      exact f_retI hZ hR dX7_count_14 rfl (by omega) (by refine ⟨rfl, ?_⟩; unfold countZ; simp only [show ¬ q = 0 by omega, show ¬ q = 1 by omega, show ¬ q = 2 by omega, show ¬ q = 3 by omega, show ¬ q = 4 by omega, show ¬ q = 5 by omega, show ¬ q = 6 by omega, show ¬ q = 7 by omega, if_false])
  · have loop : ∀ (m : Nat) (w : Int), 0 ≤ w → w + m = M 59 12 → fG X mX7_count Z 22 [.ref (xa X 59), .int (iv 0), .int (iv (sumZ (litO (M 66)) w)), .int (iv (sumZ (M 65) w)), .int (iv w)] [] M := by
      intro m
      induction m with
      | zero =>
        intro w h0 hw
        have hOw : 0 ≤ sumZ (litO (M 66)) w ∧ sumZ (litO (M 66)) w ≤ 4 := by
          have := sumZ_bd (f := litO (M 66)) (a := 0) (b := 1) (by omega) (by omega) h0 (fun i _ _ => by unfold litO; split <;> omega)
          omega
        have hOp : 0 ≤ sumZ (M 65) w ∧ sumZ (M 65) w ≤ 400 := by
          have := sumZ_bd (f := M 65) (a := 0) (b := 99) (by omega) (by omega) h0 (fun i h2 h3 => (hA i h2 (by omega)).2.2.1)
          omega
        refine f_iload hZ dX7_count_22 rfl ?_
        refine f_aload_n hZ dX7_count_24 rfl ?_
        refine gX7_110 hZ dX7_count_25 (fun r25 => ?_)
        refine f_ige (tgt := 65) hZ dX7_count_28 rfl (by omega) (by omega) (fun h28 => ?_) (fun h28 => ?_)
        · refine f_iload_n hZ dX7_count_65 rfl ?_
          refine f_iconst hZ dX7_count_66 ?_
          refine f_ige (tgt := 107) hZ dX7_count_67 rfl (by omega) (by omega) (fun h67 => ?_) (fun h67 => ?_)
          · exfalso; omega
          · refine f_iload_n hZ dX7_count_70 rfl ?_
            refine f_ne (tgt := 81) hZ dX7_count_71 rfl (by omega) (fun h71 => ?_) (fun h71 => ?_)
            · exfalso; omega
            · refine f_aload_n hZ dX7_count_74 rfl ?_
              refine gX7_110 hZ dX7_count_75 (fun r75 => ?_)
              refine f_goto (tgt := 106) hZ dX7_count_78 rfl ?_
              exact f_retI hZ hR dX7_count_106 rfl (by omega) (by have hwe : w = M 59 12 := (by omega); subst hwe; exact ⟨rfl, rfl⟩)
        · exfalso; omega
      | succ m ih =>
        intro w h0 hw
        have hOw : 0 ≤ sumZ (litO (M 66)) w ∧ sumZ (litO (M 66)) w ≤ 4 := by
          have := sumZ_bd (f := litO (M 66)) (a := 0) (b := 1) (by omega) (by omega) h0 (fun i _ _ => by unfold litO; split <;> omega)
          omega
        have hOp : 0 ≤ sumZ (M 65) w ∧ sumZ (M 65) w ≤ 400 := by
          have := sumZ_bd (f := M 65) (a := 0) (b := 99) (by omega) (by omega) h0 (fun i h2 h3 => (hA i h2 (by omega)).2.2.1)
          omega
        refine f_iload hZ dX7_count_22 rfl ?_
        refine f_aload_n hZ dX7_count_24 rfl ?_
        refine gX7_110 hZ dX7_count_25 (fun r25 => ?_)
        refine f_ige (tgt := 65) hZ dX7_count_28 rfl (by omega) (by omega) (fun h28 => ?_) (fun h28 => ?_)
        · exfalso; omega
        · refine f_iload_n hZ dX7_count_31 rfl ?_
          refine f_aload_n hZ dX7_count_32 rfl ?_
          refine gX7_32 hZ dX7_count_33 ?_
          refine f_iload hZ dX7_count_36 rfl ?_
          refine f_iaload hZ dX7_count_38 (by first | rfl | exact hC.t1 | exact hC.t2 | exact hC.t3 | exact hC.t4 | exact hC.t5) (by first | rfl | exact hC.l1 | exact hC.l2 | exact hC.l3 | exact hC.l4 | exact hC.l5) (by omega) (by omega) (fun r38 => ?_)
          refine f_le (tgt := 46) hZ dX7_count_39 rfl (by omega) (fun h39 => ?_) (fun h39 => ?_)
          · refine f_iconst hZ dX7_count_46 ?_
            refine f_iadd hZ dX7_count_47 ?_
            refine f_istore_n (L' := [_, _, _, _, _]) hZ dX7_count_48 rfl rfl ?_
            refine f_iload_n hZ dX7_count_49 rfl ?_
            refine f_aload_n hZ dX7_count_50 rfl ?_
            refine gX7_29 hZ dX7_count_51 ?_
            refine f_iload hZ dX7_count_54 rfl ?_
            refine f_iaload hZ dX7_count_56 (by first | rfl | exact hC.t1 | exact hC.t2 | exact hC.t3 | exact hC.t4 | exact hC.t5) (by first | rfl | exact hC.l1 | exact hC.l2 | exact hC.l3 | exact hC.l4 | exact hC.l5) (by omega) (by omega) (fun r56 => ?_)
            refine f_iadd hZ dX7_count_57 ?_
            refine f_istore_n (L' := [_, _, _, _, _]) hZ dX7_count_58 rfl rfl ?_
            refine f_iinc (L' := [_, _, _, _, _]) hZ dX7_count_59 rfl rfl ?_
            refine f_goto (tgt := 22) hZ dX7_count_62 rfl ?_
            have hh := ih (w + 1) (by omega) (by omega)
            rw [sumZ_succ _ (by omega), sumZ_succ _ (by omega)] at hh
            first | (rw [show litO (M 66) w = 1 from if_pos (by omega)] at hh; exact hh) | (rw [show litO (M 66) w = 0 from if_neg (by omega)] at hh; exact hh)
          · refine f_iconst hZ dX7_count_42 ?_
            refine f_goto (tgt := 47) hZ dX7_count_43 rfl ?_
            refine f_iadd hZ dX7_count_47 ?_
            refine f_istore_n (L' := [_, _, _, _, _]) hZ dX7_count_48 rfl rfl ?_
            refine f_iload_n hZ dX7_count_49 rfl ?_
            refine f_aload_n hZ dX7_count_50 rfl ?_
            refine gX7_29 hZ dX7_count_51 ?_
            refine f_iload hZ dX7_count_54 rfl ?_
            refine f_iaload hZ dX7_count_56 (by first | rfl | exact hC.t1 | exact hC.t2 | exact hC.t3 | exact hC.t4 | exact hC.t5) (by first | rfl | exact hC.l1 | exact hC.l2 | exact hC.l3 | exact hC.l4 | exact hC.l5) (by omega) (by omega) (fun r56 => ?_)
            refine f_iadd hZ dX7_count_57 ?_
            refine f_istore_n (L' := [_, _, _, _, _]) hZ dX7_count_58 rfl rfl ?_
            refine f_iinc (L' := [_, _, _, _, _]) hZ dX7_count_59 rfl rfl ?_
            refine f_goto (tgt := 22) hZ dX7_count_62 rfl ?_
            have hh := ih (w + 1) (by omega) (by omega)
            rw [sumZ_succ _ (by omega), sumZ_succ _ (by omega)] at hh
            first | (rw [show litO (M 66) w = 1 from if_pos (by omega)] at hh; exact hh) | (rw [show litO (M 66) w = 0 from if_neg (by omega)] at hh; exact hh)
    refine f_iload_n hZ dX7_count_0 rfl ?_
    refine f_i2l hZ dX7_count_1 (by omega) ?_
    refine f_lconst0 hZ dX7_count_2 ?_
    refine f_ldc2 (v := (7 : Int64)) hZ (7) dX7_count_3 (tb_in 1257 (by decide +kernel) (by decide +kernel)) (by decide) ?_
    refine sX7_113 hZ dX7_count_6 (t_X7_in (by omega) (by omega) (by omega)) (fun a6 M6 r6 h6 => ?_)
    obtain ⟨e6, h6⟩ := h6
    replace e6 := e6.symm
    subst e6
    refine f_ne (tgt := 15) hZ dX7_count_9 rfl (by omega) (fun h9 => ?_) (fun h9 => ?_)
    · refine f_iconst hZ dX7_count_15 ?_
      refine f_istore_n (L' := [_, _, _, _, _]) hZ dX7_count_16 rfl rfl ?_
      refine f_iconst hZ dX7_count_17 ?_
      refine f_istore_n (L' := [_, _, _, _, _]) hZ dX7_count_18 rfl rfl ?_
      refine f_iconst hZ dX7_count_19 ?_
      refine f_istore (L' := [_, _, _, _, _]) hZ dX7_count_20 rfl rfl ?_
      exact loop (M 59 12).toNat 0 (by omega) (by omega)
    · exfalso; omega
  · have loop : ∀ (m : Nat) (w : Int), 0 ≤ w → w + m = M 59 12 → fG X mX7_count Z 22 [.ref (xa X 59), .int (iv 1), .int (iv (sumZ (litO (M 66)) w)), .int (iv (sumZ (M 65) w)), .int (iv w)] [] M := by
      intro m
      induction m with
      | zero =>
        intro w h0 hw
        have hOw : 0 ≤ sumZ (litO (M 66)) w ∧ sumZ (litO (M 66)) w ≤ 4 := by
          have := sumZ_bd (f := litO (M 66)) (a := 0) (b := 1) (by omega) (by omega) h0 (fun i _ _ => by unfold litO; split <;> omega)
          omega
        have hOp : 0 ≤ sumZ (M 65) w ∧ sumZ (M 65) w ≤ 400 := by
          have := sumZ_bd (f := M 65) (a := 0) (b := 99) (by omega) (by omega) h0 (fun i h2 h3 => (hA i h2 (by omega)).2.2.1)
          omega
        refine f_iload hZ dX7_count_22 rfl ?_
        refine f_aload_n hZ dX7_count_24 rfl ?_
        refine gX7_110 hZ dX7_count_25 (fun r25 => ?_)
        refine f_ige (tgt := 65) hZ dX7_count_28 rfl (by omega) (by omega) (fun h28 => ?_) (fun h28 => ?_)
        · refine f_iload_n hZ dX7_count_65 rfl ?_
          refine f_iconst hZ dX7_count_66 ?_
          refine f_ige (tgt := 107) hZ dX7_count_67 rfl (by omega) (by omega) (fun h67 => ?_) (fun h67 => ?_)
          · exfalso; omega
          · refine f_iload_n hZ dX7_count_70 rfl ?_
            refine f_ne (tgt := 81) hZ dX7_count_71 rfl (by omega) (fun h71 => ?_) (fun h71 => ?_)
            · refine f_iload_n hZ dX7_count_81 rfl ?_
              refine f_iconst hZ dX7_count_82 ?_
              refine f_ine (tgt := 90) hZ dX7_count_83 rfl (by omega) (by omega) (fun h83 => ?_) (fun h83 => ?_)
              · exfalso; omega
              · refine f_iload_n hZ dX7_count_86 rfl ?_
                refine f_goto (tgt := 106) hZ dX7_count_87 rfl ?_
                exact f_retI hZ hR dX7_count_106 rfl (by omega) (by have hwe : w = M 59 12 := (by omega); subst hwe; exact ⟨rfl, rfl⟩)
            · exfalso; omega
        · exfalso; omega
      | succ m ih =>
        intro w h0 hw
        have hOw : 0 ≤ sumZ (litO (M 66)) w ∧ sumZ (litO (M 66)) w ≤ 4 := by
          have := sumZ_bd (f := litO (M 66)) (a := 0) (b := 1) (by omega) (by omega) h0 (fun i _ _ => by unfold litO; split <;> omega)
          omega
        have hOp : 0 ≤ sumZ (M 65) w ∧ sumZ (M 65) w ≤ 400 := by
          have := sumZ_bd (f := M 65) (a := 0) (b := 99) (by omega) (by omega) h0 (fun i h2 h3 => (hA i h2 (by omega)).2.2.1)
          omega
        refine f_iload hZ dX7_count_22 rfl ?_
        refine f_aload_n hZ dX7_count_24 rfl ?_
        refine gX7_110 hZ dX7_count_25 (fun r25 => ?_)
        refine f_ige (tgt := 65) hZ dX7_count_28 rfl (by omega) (by omega) (fun h28 => ?_) (fun h28 => ?_)
        · exfalso; omega
        · refine f_iload_n hZ dX7_count_31 rfl ?_
          refine f_aload_n hZ dX7_count_32 rfl ?_
          refine gX7_32 hZ dX7_count_33 ?_
          refine f_iload hZ dX7_count_36 rfl ?_
          refine f_iaload hZ dX7_count_38 (by first | rfl | exact hC.t1 | exact hC.t2 | exact hC.t3 | exact hC.t4 | exact hC.t5) (by first | rfl | exact hC.l1 | exact hC.l2 | exact hC.l3 | exact hC.l4 | exact hC.l5) (by omega) (by omega) (fun r38 => ?_)
          refine f_le (tgt := 46) hZ dX7_count_39 rfl (by omega) (fun h39 => ?_) (fun h39 => ?_)
          · refine f_iconst hZ dX7_count_46 ?_
            refine f_iadd hZ dX7_count_47 ?_
            refine f_istore_n (L' := [_, _, _, _, _]) hZ dX7_count_48 rfl rfl ?_
            refine f_iload_n hZ dX7_count_49 rfl ?_
            refine f_aload_n hZ dX7_count_50 rfl ?_
            refine gX7_29 hZ dX7_count_51 ?_
            refine f_iload hZ dX7_count_54 rfl ?_
            refine f_iaload hZ dX7_count_56 (by first | rfl | exact hC.t1 | exact hC.t2 | exact hC.t3 | exact hC.t4 | exact hC.t5) (by first | rfl | exact hC.l1 | exact hC.l2 | exact hC.l3 | exact hC.l4 | exact hC.l5) (by omega) (by omega) (fun r56 => ?_)
            refine f_iadd hZ dX7_count_57 ?_
            refine f_istore_n (L' := [_, _, _, _, _]) hZ dX7_count_58 rfl rfl ?_
            refine f_iinc (L' := [_, _, _, _, _]) hZ dX7_count_59 rfl rfl ?_
            refine f_goto (tgt := 22) hZ dX7_count_62 rfl ?_
            have hh := ih (w + 1) (by omega) (by omega)
            rw [sumZ_succ _ (by omega), sumZ_succ _ (by omega)] at hh
            first | (rw [show litO (M 66) w = 1 from if_pos (by omega)] at hh; exact hh) | (rw [show litO (M 66) w = 0 from if_neg (by omega)] at hh; exact hh)
          · refine f_iconst hZ dX7_count_42 ?_
            refine f_goto (tgt := 47) hZ dX7_count_43 rfl ?_
            refine f_iadd hZ dX7_count_47 ?_
            refine f_istore_n (L' := [_, _, _, _, _]) hZ dX7_count_48 rfl rfl ?_
            refine f_iload_n hZ dX7_count_49 rfl ?_
            refine f_aload_n hZ dX7_count_50 rfl ?_
            refine gX7_29 hZ dX7_count_51 ?_
            refine f_iload hZ dX7_count_54 rfl ?_
            refine f_iaload hZ dX7_count_56 (by first | rfl | exact hC.t1 | exact hC.t2 | exact hC.t3 | exact hC.t4 | exact hC.t5) (by first | rfl | exact hC.l1 | exact hC.l2 | exact hC.l3 | exact hC.l4 | exact hC.l5) (by omega) (by omega) (fun r56 => ?_)
            refine f_iadd hZ dX7_count_57 ?_
            refine f_istore_n (L' := [_, _, _, _, _]) hZ dX7_count_58 rfl rfl ?_
            refine f_iinc (L' := [_, _, _, _, _]) hZ dX7_count_59 rfl rfl ?_
            refine f_goto (tgt := 22) hZ dX7_count_62 rfl ?_
            have hh := ih (w + 1) (by omega) (by omega)
            rw [sumZ_succ _ (by omega), sumZ_succ _ (by omega)] at hh
            first | (rw [show litO (M 66) w = 1 from if_pos (by omega)] at hh; exact hh) | (rw [show litO (M 66) w = 0 from if_neg (by omega)] at hh; exact hh)
    refine f_iload_n hZ dX7_count_0 rfl ?_
    refine f_i2l hZ dX7_count_1 (by omega) ?_
    refine f_lconst0 hZ dX7_count_2 ?_
    refine f_ldc2 (v := (7 : Int64)) hZ (7) dX7_count_3 (tb_in 1257 (by decide +kernel) (by decide +kernel)) (by decide) ?_
    refine sX7_113 hZ dX7_count_6 (t_X7_in (by omega) (by omega) (by omega)) (fun a6 M6 r6 h6 => ?_)
    obtain ⟨e6, h6⟩ := h6
    replace e6 := e6.symm
    subst e6
    refine f_ne (tgt := 15) hZ dX7_count_9 rfl (by omega) (fun h9 => ?_) (fun h9 => ?_)
    · refine f_iconst hZ dX7_count_15 ?_
      refine f_istore_n (L' := [_, _, _, _, _]) hZ dX7_count_16 rfl rfl ?_
      refine f_iconst hZ dX7_count_17 ?_
      refine f_istore_n (L' := [_, _, _, _, _]) hZ dX7_count_18 rfl rfl ?_
      refine f_iconst hZ dX7_count_19 ?_
      refine f_istore (L' := [_, _, _, _, _]) hZ dX7_count_20 rfl rfl ?_
      exact loop (M 59 12).toNat 0 (by omega) (by omega)
    · exfalso; omega
  · have loop : ∀ (m : Nat) (w : Int), 0 ≤ w → w + m = M 59 12 → fG X mX7_count Z 22 [.ref (xa X 59), .int (iv 2), .int (iv (sumZ (litO (M 66)) w)), .int (iv (sumZ (M 65) w)), .int (iv w)] [] M := by
      intro m
      induction m with
      | zero =>
        intro w h0 hw
        have hOw : 0 ≤ sumZ (litO (M 66)) w ∧ sumZ (litO (M 66)) w ≤ 4 := by
          have := sumZ_bd (f := litO (M 66)) (a := 0) (b := 1) (by omega) (by omega) h0 (fun i _ _ => by unfold litO; split <;> omega)
          omega
        have hOp : 0 ≤ sumZ (M 65) w ∧ sumZ (M 65) w ≤ 400 := by
          have := sumZ_bd (f := M 65) (a := 0) (b := 99) (by omega) (by omega) h0 (fun i h2 h3 => (hA i h2 (by omega)).2.2.1)
          omega
        refine f_iload hZ dX7_count_22 rfl ?_
        refine f_aload_n hZ dX7_count_24 rfl ?_
        refine gX7_110 hZ dX7_count_25 (fun r25 => ?_)
        refine f_ige (tgt := 65) hZ dX7_count_28 rfl (by omega) (by omega) (fun h28 => ?_) (fun h28 => ?_)
        · refine f_iload_n hZ dX7_count_65 rfl ?_
          refine f_iconst hZ dX7_count_66 ?_
          refine f_ige (tgt := 107) hZ dX7_count_67 rfl (by omega) (by omega) (fun h67 => ?_) (fun h67 => ?_)
          · exfalso; omega
          · refine f_iload_n hZ dX7_count_70 rfl ?_
            refine f_ne (tgt := 81) hZ dX7_count_71 rfl (by omega) (fun h71 => ?_) (fun h71 => ?_)
            · refine f_iload_n hZ dX7_count_81 rfl ?_
              refine f_iconst hZ dX7_count_82 ?_
              refine f_ine (tgt := 90) hZ dX7_count_83 rfl (by omega) (by omega) (fun h83 => ?_) (fun h83 => ?_)
              · refine f_iload_n hZ dX7_count_90 rfl ?_
                refine f_iconst hZ dX7_count_91 ?_
                refine f_ine (tgt := 102) hZ dX7_count_92 rfl (by omega) (by omega) (fun h92 => ?_) (fun h92 => ?_)
                · exfalso; omega
                · refine f_aload_n hZ dX7_count_95 rfl ?_
                  refine gX7_133 hZ dX7_count_96 (fun r96 => ?_)
                  refine f_goto (tgt := 106) hZ dX7_count_99 rfl ?_
                  exact f_retI hZ hR dX7_count_106 rfl (by omega) (by have hwe : w = M 59 12 := (by omega); subst hwe; exact ⟨rfl, rfl⟩)
              · exfalso; omega
            · exfalso; omega
        · exfalso; omega
      | succ m ih =>
        intro w h0 hw
        have hOw : 0 ≤ sumZ (litO (M 66)) w ∧ sumZ (litO (M 66)) w ≤ 4 := by
          have := sumZ_bd (f := litO (M 66)) (a := 0) (b := 1) (by omega) (by omega) h0 (fun i _ _ => by unfold litO; split <;> omega)
          omega
        have hOp : 0 ≤ sumZ (M 65) w ∧ sumZ (M 65) w ≤ 400 := by
          have := sumZ_bd (f := M 65) (a := 0) (b := 99) (by omega) (by omega) h0 (fun i h2 h3 => (hA i h2 (by omega)).2.2.1)
          omega
        refine f_iload hZ dX7_count_22 rfl ?_
        refine f_aload_n hZ dX7_count_24 rfl ?_
        refine gX7_110 hZ dX7_count_25 (fun r25 => ?_)
        refine f_ige (tgt := 65) hZ dX7_count_28 rfl (by omega) (by omega) (fun h28 => ?_) (fun h28 => ?_)
        · exfalso; omega
        · refine f_iload_n hZ dX7_count_31 rfl ?_
          refine f_aload_n hZ dX7_count_32 rfl ?_
          refine gX7_32 hZ dX7_count_33 ?_
          refine f_iload hZ dX7_count_36 rfl ?_
          refine f_iaload hZ dX7_count_38 (by first | rfl | exact hC.t1 | exact hC.t2 | exact hC.t3 | exact hC.t4 | exact hC.t5) (by first | rfl | exact hC.l1 | exact hC.l2 | exact hC.l3 | exact hC.l4 | exact hC.l5) (by omega) (by omega) (fun r38 => ?_)
          refine f_le (tgt := 46) hZ dX7_count_39 rfl (by omega) (fun h39 => ?_) (fun h39 => ?_)
          · refine f_iconst hZ dX7_count_46 ?_
            refine f_iadd hZ dX7_count_47 ?_
            refine f_istore_n (L' := [_, _, _, _, _]) hZ dX7_count_48 rfl rfl ?_
            refine f_iload_n hZ dX7_count_49 rfl ?_
            refine f_aload_n hZ dX7_count_50 rfl ?_
            refine gX7_29 hZ dX7_count_51 ?_
            refine f_iload hZ dX7_count_54 rfl ?_
            refine f_iaload hZ dX7_count_56 (by first | rfl | exact hC.t1 | exact hC.t2 | exact hC.t3 | exact hC.t4 | exact hC.t5) (by first | rfl | exact hC.l1 | exact hC.l2 | exact hC.l3 | exact hC.l4 | exact hC.l5) (by omega) (by omega) (fun r56 => ?_)
            refine f_iadd hZ dX7_count_57 ?_
            refine f_istore_n (L' := [_, _, _, _, _]) hZ dX7_count_58 rfl rfl ?_
            refine f_iinc (L' := [_, _, _, _, _]) hZ dX7_count_59 rfl rfl ?_
            refine f_goto (tgt := 22) hZ dX7_count_62 rfl ?_
            have hh := ih (w + 1) (by omega) (by omega)
            rw [sumZ_succ _ (by omega), sumZ_succ _ (by omega)] at hh
            first | (rw [show litO (M 66) w = 1 from if_pos (by omega)] at hh; exact hh) | (rw [show litO (M 66) w = 0 from if_neg (by omega)] at hh; exact hh)
          · refine f_iconst hZ dX7_count_42 ?_
            refine f_goto (tgt := 47) hZ dX7_count_43 rfl ?_
            refine f_iadd hZ dX7_count_47 ?_
            refine f_istore_n (L' := [_, _, _, _, _]) hZ dX7_count_48 rfl rfl ?_
            refine f_iload_n hZ dX7_count_49 rfl ?_
            refine f_aload_n hZ dX7_count_50 rfl ?_
            refine gX7_29 hZ dX7_count_51 ?_
            refine f_iload hZ dX7_count_54 rfl ?_
            refine f_iaload hZ dX7_count_56 (by first | rfl | exact hC.t1 | exact hC.t2 | exact hC.t3 | exact hC.t4 | exact hC.t5) (by first | rfl | exact hC.l1 | exact hC.l2 | exact hC.l3 | exact hC.l4 | exact hC.l5) (by omega) (by omega) (fun r56 => ?_)
            refine f_iadd hZ dX7_count_57 ?_
            refine f_istore_n (L' := [_, _, _, _, _]) hZ dX7_count_58 rfl rfl ?_
            refine f_iinc (L' := [_, _, _, _, _]) hZ dX7_count_59 rfl rfl ?_
            refine f_goto (tgt := 22) hZ dX7_count_62 rfl ?_
            have hh := ih (w + 1) (by omega) (by omega)
            rw [sumZ_succ _ (by omega), sumZ_succ _ (by omega)] at hh
            first | (rw [show litO (M 66) w = 1 from if_pos (by omega)] at hh; exact hh) | (rw [show litO (M 66) w = 0 from if_neg (by omega)] at hh; exact hh)
    refine f_iload_n hZ dX7_count_0 rfl ?_
    refine f_i2l hZ dX7_count_1 (by omega) ?_
    refine f_lconst0 hZ dX7_count_2 ?_
    refine f_ldc2 (v := (7 : Int64)) hZ (7) dX7_count_3 (tb_in 1257 (by decide +kernel) (by decide +kernel)) (by decide) ?_
    refine sX7_113 hZ dX7_count_6 (t_X7_in (by omega) (by omega) (by omega)) (fun a6 M6 r6 h6 => ?_)
    obtain ⟨e6, h6⟩ := h6
    replace e6 := e6.symm
    subst e6
    refine f_ne (tgt := 15) hZ dX7_count_9 rfl (by omega) (fun h9 => ?_) (fun h9 => ?_)
    · refine f_iconst hZ dX7_count_15 ?_
      refine f_istore_n (L' := [_, _, _, _, _]) hZ dX7_count_16 rfl rfl ?_
      refine f_iconst hZ dX7_count_17 ?_
      refine f_istore_n (L' := [_, _, _, _, _]) hZ dX7_count_18 rfl rfl ?_
      refine f_iconst hZ dX7_count_19 ?_
      refine f_istore (L' := [_, _, _, _, _]) hZ dX7_count_20 rfl rfl ?_
      exact loop (M 59 12).toNat 0 (by omega) (by omega)
    · exfalso; omega
  · have loop : ∀ (m : Nat) (w : Int), 0 ≤ w → w + m = M 59 12 → fG X mX7_count Z 22 [.ref (xa X 59), .int (iv 3), .int (iv (sumZ (litO (M 66)) w)), .int (iv (sumZ (M 65) w)), .int (iv w)] [] M := by
      intro m
      induction m with
      | zero =>
        intro w h0 hw
        have hOw : 0 ≤ sumZ (litO (M 66)) w ∧ sumZ (litO (M 66)) w ≤ 4 := by
          have := sumZ_bd (f := litO (M 66)) (a := 0) (b := 1) (by omega) (by omega) h0 (fun i _ _ => by unfold litO; split <;> omega)
          omega
        have hOp : 0 ≤ sumZ (M 65) w ∧ sumZ (M 65) w ≤ 400 := by
          have := sumZ_bd (f := M 65) (a := 0) (b := 99) (by omega) (by omega) h0 (fun i h2 h3 => (hA i h2 (by omega)).2.2.1)
          omega
        refine f_iload hZ dX7_count_22 rfl ?_
        refine f_aload_n hZ dX7_count_24 rfl ?_
        refine gX7_110 hZ dX7_count_25 (fun r25 => ?_)
        refine f_ige (tgt := 65) hZ dX7_count_28 rfl (by omega) (by omega) (fun h28 => ?_) (fun h28 => ?_)
        · refine f_iload_n hZ dX7_count_65 rfl ?_
          refine f_iconst hZ dX7_count_66 ?_
          refine f_ige (tgt := 107) hZ dX7_count_67 rfl (by omega) (by omega) (fun h67 => ?_) (fun h67 => ?_)
          · exfalso; omega
          · refine f_iload_n hZ dX7_count_70 rfl ?_
            refine f_ne (tgt := 81) hZ dX7_count_71 rfl (by omega) (fun h71 => ?_) (fun h71 => ?_)
            · refine f_iload_n hZ dX7_count_81 rfl ?_
              refine f_iconst hZ dX7_count_82 ?_
              refine f_ine (tgt := 90) hZ dX7_count_83 rfl (by omega) (by omega) (fun h83 => ?_) (fun h83 => ?_)
              · refine f_iload_n hZ dX7_count_90 rfl ?_
                refine f_iconst hZ dX7_count_91 ?_
                refine f_ine (tgt := 102) hZ dX7_count_92 rfl (by omega) (by omega) (fun h92 => ?_) (fun h92 => ?_)
                · refine f_aload_n hZ dX7_count_102 rfl ?_
                  refine gX7_136 hZ dX7_count_103 (fun r103 => ?_)
                  exact f_retI hZ hR dX7_count_106 rfl (by omega) (by have hwe : w = M 59 12 := (by omega); subst hwe; exact ⟨rfl, rfl⟩)
                · exfalso; omega
              · exfalso; omega
            · exfalso; omega
        · exfalso; omega
      | succ m ih =>
        intro w h0 hw
        have hOw : 0 ≤ sumZ (litO (M 66)) w ∧ sumZ (litO (M 66)) w ≤ 4 := by
          have := sumZ_bd (f := litO (M 66)) (a := 0) (b := 1) (by omega) (by omega) h0 (fun i _ _ => by unfold litO; split <;> omega)
          omega
        have hOp : 0 ≤ sumZ (M 65) w ∧ sumZ (M 65) w ≤ 400 := by
          have := sumZ_bd (f := M 65) (a := 0) (b := 99) (by omega) (by omega) h0 (fun i h2 h3 => (hA i h2 (by omega)).2.2.1)
          omega
        refine f_iload hZ dX7_count_22 rfl ?_
        refine f_aload_n hZ dX7_count_24 rfl ?_
        refine gX7_110 hZ dX7_count_25 (fun r25 => ?_)
        refine f_ige (tgt := 65) hZ dX7_count_28 rfl (by omega) (by omega) (fun h28 => ?_) (fun h28 => ?_)
        · exfalso; omega
        · refine f_iload_n hZ dX7_count_31 rfl ?_
          refine f_aload_n hZ dX7_count_32 rfl ?_
          refine gX7_32 hZ dX7_count_33 ?_
          refine f_iload hZ dX7_count_36 rfl ?_
          refine f_iaload hZ dX7_count_38 (by first | rfl | exact hC.t1 | exact hC.t2 | exact hC.t3 | exact hC.t4 | exact hC.t5) (by first | rfl | exact hC.l1 | exact hC.l2 | exact hC.l3 | exact hC.l4 | exact hC.l5) (by omega) (by omega) (fun r38 => ?_)
          refine f_le (tgt := 46) hZ dX7_count_39 rfl (by omega) (fun h39 => ?_) (fun h39 => ?_)
          · refine f_iconst hZ dX7_count_46 ?_
            refine f_iadd hZ dX7_count_47 ?_
            refine f_istore_n (L' := [_, _, _, _, _]) hZ dX7_count_48 rfl rfl ?_
            refine f_iload_n hZ dX7_count_49 rfl ?_
            refine f_aload_n hZ dX7_count_50 rfl ?_
            refine gX7_29 hZ dX7_count_51 ?_
            refine f_iload hZ dX7_count_54 rfl ?_
            refine f_iaload hZ dX7_count_56 (by first | rfl | exact hC.t1 | exact hC.t2 | exact hC.t3 | exact hC.t4 | exact hC.t5) (by first | rfl | exact hC.l1 | exact hC.l2 | exact hC.l3 | exact hC.l4 | exact hC.l5) (by omega) (by omega) (fun r56 => ?_)
            refine f_iadd hZ dX7_count_57 ?_
            refine f_istore_n (L' := [_, _, _, _, _]) hZ dX7_count_58 rfl rfl ?_
            refine f_iinc (L' := [_, _, _, _, _]) hZ dX7_count_59 rfl rfl ?_
            refine f_goto (tgt := 22) hZ dX7_count_62 rfl ?_
            have hh := ih (w + 1) (by omega) (by omega)
            rw [sumZ_succ _ (by omega), sumZ_succ _ (by omega)] at hh
            first | (rw [show litO (M 66) w = 1 from if_pos (by omega)] at hh; exact hh) | (rw [show litO (M 66) w = 0 from if_neg (by omega)] at hh; exact hh)
          · refine f_iconst hZ dX7_count_42 ?_
            refine f_goto (tgt := 47) hZ dX7_count_43 rfl ?_
            refine f_iadd hZ dX7_count_47 ?_
            refine f_istore_n (L' := [_, _, _, _, _]) hZ dX7_count_48 rfl rfl ?_
            refine f_iload_n hZ dX7_count_49 rfl ?_
            refine f_aload_n hZ dX7_count_50 rfl ?_
            refine gX7_29 hZ dX7_count_51 ?_
            refine f_iload hZ dX7_count_54 rfl ?_
            refine f_iaload hZ dX7_count_56 (by first | rfl | exact hC.t1 | exact hC.t2 | exact hC.t3 | exact hC.t4 | exact hC.t5) (by first | rfl | exact hC.l1 | exact hC.l2 | exact hC.l3 | exact hC.l4 | exact hC.l5) (by omega) (by omega) (fun r56 => ?_)
            refine f_iadd hZ dX7_count_57 ?_
            refine f_istore_n (L' := [_, _, _, _, _]) hZ dX7_count_58 rfl rfl ?_
            refine f_iinc (L' := [_, _, _, _, _]) hZ dX7_count_59 rfl rfl ?_
            refine f_goto (tgt := 22) hZ dX7_count_62 rfl ?_
            have hh := ih (w + 1) (by omega) (by omega)
            rw [sumZ_succ _ (by omega), sumZ_succ _ (by omega)] at hh
            first | (rw [show litO (M 66) w = 1 from if_pos (by omega)] at hh; exact hh) | (rw [show litO (M 66) w = 0 from if_neg (by omega)] at hh; exact hh)
    refine f_iload_n hZ dX7_count_0 rfl ?_
    refine f_i2l hZ dX7_count_1 (by omega) ?_
    refine f_lconst0 hZ dX7_count_2 ?_
    refine f_ldc2 (v := (7 : Int64)) hZ (7) dX7_count_3 (tb_in 1257 (by decide +kernel) (by decide +kernel)) (by decide) ?_
    refine sX7_113 hZ dX7_count_6 (t_X7_in (by omega) (by omega) (by omega)) (fun a6 M6 r6 h6 => ?_)
    obtain ⟨e6, h6⟩ := h6
    replace e6 := e6.symm
    subst e6
    refine f_ne (tgt := 15) hZ dX7_count_9 rfl (by omega) (fun h9 => ?_) (fun h9 => ?_)
    · refine f_iconst hZ dX7_count_15 ?_
      refine f_istore_n (L' := [_, _, _, _, _]) hZ dX7_count_16 rfl rfl ?_
      refine f_iconst hZ dX7_count_17 ?_
      refine f_istore_n (L' := [_, _, _, _, _]) hZ dX7_count_18 rfl rfl ?_
      refine f_iconst hZ dX7_count_19 ?_
      refine f_istore (L' := [_, _, _, _, _]) hZ dX7_count_20 rfl rfl ?_
      exact loop (M 59 12).toNat 0 (by omega) (by omega)
    · exfalso; omega
  · have loop : ∀ (m : Nat) (w : Int), 0 ≤ w → w + m = M 59 12 → fG X mX7_count Z 22 [.ref (xa X 59), .int (iv 4), .int (iv (sumZ (litO (M 66)) w)), .int (iv (sumZ (M 65) w)), .int (iv w)] [] M := by
      intro m
      induction m with
      | zero =>
        intro w h0 hw
        have hOw : 0 ≤ sumZ (litO (M 66)) w ∧ sumZ (litO (M 66)) w ≤ 4 := by
          have := sumZ_bd (f := litO (M 66)) (a := 0) (b := 1) (by omega) (by omega) h0 (fun i _ _ => by unfold litO; split <;> omega)
          omega
        have hOp : 0 ≤ sumZ (M 65) w ∧ sumZ (M 65) w ≤ 400 := by
          have := sumZ_bd (f := M 65) (a := 0) (b := 99) (by omega) (by omega) h0 (fun i h2 h3 => (hA i h2 (by omega)).2.2.1)
          omega
        refine f_iload hZ dX7_count_22 rfl ?_
        refine f_aload_n hZ dX7_count_24 rfl ?_
        refine gX7_110 hZ dX7_count_25 (fun r25 => ?_)
        refine f_ige (tgt := 65) hZ dX7_count_28 rfl (by omega) (by omega) (fun h28 => ?_) (fun h28 => ?_)
        · refine f_iload_n hZ dX7_count_65 rfl ?_
          refine f_iconst hZ dX7_count_66 ?_
          refine f_ige (tgt := 107) hZ dX7_count_67 rfl (by omega) (by omega) (fun h67 => ?_) (fun h67 => ?_)
          · refine f_iload_n hZ dX7_count_107 rfl ?_
            refine f_iconst hZ dX7_count_108 ?_
            refine f_ine (tgt := 119) hZ dX7_count_109 rfl (by omega) (by omega) (fun h109 => ?_) (fun h109 => ?_)
            · exfalso; omega
            · refine f_aload_n hZ dX7_count_112 rfl ?_
              refine gX7_107 hZ dX7_count_113 (fun r113 => ?_)
              refine f_goto (tgt := 145) hZ dX7_count_116 rfl ?_
              exact f_retI hZ hR dX7_count_145 rfl (by omega) (by have hwe : w = M 59 12 := (by omega); subst hwe; exact ⟨rfl, rfl⟩)
          · exfalso; omega
        · exfalso; omega
      | succ m ih =>
        intro w h0 hw
        have hOw : 0 ≤ sumZ (litO (M 66)) w ∧ sumZ (litO (M 66)) w ≤ 4 := by
          have := sumZ_bd (f := litO (M 66)) (a := 0) (b := 1) (by omega) (by omega) h0 (fun i _ _ => by unfold litO; split <;> omega)
          omega
        have hOp : 0 ≤ sumZ (M 65) w ∧ sumZ (M 65) w ≤ 400 := by
          have := sumZ_bd (f := M 65) (a := 0) (b := 99) (by omega) (by omega) h0 (fun i h2 h3 => (hA i h2 (by omega)).2.2.1)
          omega
        refine f_iload hZ dX7_count_22 rfl ?_
        refine f_aload_n hZ dX7_count_24 rfl ?_
        refine gX7_110 hZ dX7_count_25 (fun r25 => ?_)
        refine f_ige (tgt := 65) hZ dX7_count_28 rfl (by omega) (by omega) (fun h28 => ?_) (fun h28 => ?_)
        · exfalso; omega
        · refine f_iload_n hZ dX7_count_31 rfl ?_
          refine f_aload_n hZ dX7_count_32 rfl ?_
          refine gX7_32 hZ dX7_count_33 ?_
          refine f_iload hZ dX7_count_36 rfl ?_
          refine f_iaload hZ dX7_count_38 (by first | rfl | exact hC.t1 | exact hC.t2 | exact hC.t3 | exact hC.t4 | exact hC.t5) (by first | rfl | exact hC.l1 | exact hC.l2 | exact hC.l3 | exact hC.l4 | exact hC.l5) (by omega) (by omega) (fun r38 => ?_)
          refine f_le (tgt := 46) hZ dX7_count_39 rfl (by omega) (fun h39 => ?_) (fun h39 => ?_)
          · refine f_iconst hZ dX7_count_46 ?_
            refine f_iadd hZ dX7_count_47 ?_
            refine f_istore_n (L' := [_, _, _, _, _]) hZ dX7_count_48 rfl rfl ?_
            refine f_iload_n hZ dX7_count_49 rfl ?_
            refine f_aload_n hZ dX7_count_50 rfl ?_
            refine gX7_29 hZ dX7_count_51 ?_
            refine f_iload hZ dX7_count_54 rfl ?_
            refine f_iaload hZ dX7_count_56 (by first | rfl | exact hC.t1 | exact hC.t2 | exact hC.t3 | exact hC.t4 | exact hC.t5) (by first | rfl | exact hC.l1 | exact hC.l2 | exact hC.l3 | exact hC.l4 | exact hC.l5) (by omega) (by omega) (fun r56 => ?_)
            refine f_iadd hZ dX7_count_57 ?_
            refine f_istore_n (L' := [_, _, _, _, _]) hZ dX7_count_58 rfl rfl ?_
            refine f_iinc (L' := [_, _, _, _, _]) hZ dX7_count_59 rfl rfl ?_
            refine f_goto (tgt := 22) hZ dX7_count_62 rfl ?_
            have hh := ih (w + 1) (by omega) (by omega)
            rw [sumZ_succ _ (by omega), sumZ_succ _ (by omega)] at hh
            first | (rw [show litO (M 66) w = 1 from if_pos (by omega)] at hh; exact hh) | (rw [show litO (M 66) w = 0 from if_neg (by omega)] at hh; exact hh)
          · refine f_iconst hZ dX7_count_42 ?_
            refine f_goto (tgt := 47) hZ dX7_count_43 rfl ?_
            refine f_iadd hZ dX7_count_47 ?_
            refine f_istore_n (L' := [_, _, _, _, _]) hZ dX7_count_48 rfl rfl ?_
            refine f_iload_n hZ dX7_count_49 rfl ?_
            refine f_aload_n hZ dX7_count_50 rfl ?_
            refine gX7_29 hZ dX7_count_51 ?_
            refine f_iload hZ dX7_count_54 rfl ?_
            refine f_iaload hZ dX7_count_56 (by first | rfl | exact hC.t1 | exact hC.t2 | exact hC.t3 | exact hC.t4 | exact hC.t5) (by first | rfl | exact hC.l1 | exact hC.l2 | exact hC.l3 | exact hC.l4 | exact hC.l5) (by omega) (by omega) (fun r56 => ?_)
            refine f_iadd hZ dX7_count_57 ?_
            refine f_istore_n (L' := [_, _, _, _, _]) hZ dX7_count_58 rfl rfl ?_
            refine f_iinc (L' := [_, _, _, _, _]) hZ dX7_count_59 rfl rfl ?_
            refine f_goto (tgt := 22) hZ dX7_count_62 rfl ?_
            have hh := ih (w + 1) (by omega) (by omega)
            rw [sumZ_succ _ (by omega), sumZ_succ _ (by omega)] at hh
            first | (rw [show litO (M 66) w = 1 from if_pos (by omega)] at hh; exact hh) | (rw [show litO (M 66) w = 0 from if_neg (by omega)] at hh; exact hh)
    refine f_iload_n hZ dX7_count_0 rfl ?_
    refine f_i2l hZ dX7_count_1 (by omega) ?_
    refine f_lconst0 hZ dX7_count_2 ?_
    refine f_ldc2 (v := (7 : Int64)) hZ (7) dX7_count_3 (tb_in 1257 (by decide +kernel) (by decide +kernel)) (by decide) ?_
    refine sX7_113 hZ dX7_count_6 (t_X7_in (by omega) (by omega) (by omega)) (fun a6 M6 r6 h6 => ?_)
    obtain ⟨e6, h6⟩ := h6
    replace e6 := e6.symm
    subst e6
    refine f_ne (tgt := 15) hZ dX7_count_9 rfl (by omega) (fun h9 => ?_) (fun h9 => ?_)
    · refine f_iconst hZ dX7_count_15 ?_
      refine f_istore_n (L' := [_, _, _, _, _]) hZ dX7_count_16 rfl rfl ?_
      refine f_iconst hZ dX7_count_17 ?_
      refine f_istore_n (L' := [_, _, _, _, _]) hZ dX7_count_18 rfl rfl ?_
      refine f_iconst hZ dX7_count_19 ?_
      refine f_istore (L' := [_, _, _, _, _]) hZ dX7_count_20 rfl rfl ?_
      exact loop (M 59 12).toNat 0 (by omega) (by omega)
    · exfalso; omega
  · have loop : ∀ (m : Nat) (w : Int), 0 ≤ w → w + m = M 59 12 → fG X mX7_count Z 22 [.ref (xa X 59), .int (iv 5), .int (iv (sumZ (litO (M 66)) w)), .int (iv (sumZ (M 65) w)), .int (iv w)] [] M := by
      intro m
      induction m with
      | zero =>
        intro w h0 hw
        have hOw : 0 ≤ sumZ (litO (M 66)) w ∧ sumZ (litO (M 66)) w ≤ 4 := by
          have := sumZ_bd (f := litO (M 66)) (a := 0) (b := 1) (by omega) (by omega) h0 (fun i _ _ => by unfold litO; split <;> omega)
          omega
        have hOp : 0 ≤ sumZ (M 65) w ∧ sumZ (M 65) w ≤ 400 := by
          have := sumZ_bd (f := M 65) (a := 0) (b := 99) (by omega) (by omega) h0 (fun i h2 h3 => (hA i h2 (by omega)).2.2.1)
          omega
        refine f_iload hZ dX7_count_22 rfl ?_
        refine f_aload_n hZ dX7_count_24 rfl ?_
        refine gX7_110 hZ dX7_count_25 (fun r25 => ?_)
        refine f_ige (tgt := 65) hZ dX7_count_28 rfl (by omega) (by omega) (fun h28 => ?_) (fun h28 => ?_)
        · refine f_iload_n hZ dX7_count_65 rfl ?_
          refine f_iconst hZ dX7_count_66 ?_
          refine f_ige (tgt := 107) hZ dX7_count_67 rfl (by omega) (by omega) (fun h67 => ?_) (fun h67 => ?_)
          · refine f_iload_n hZ dX7_count_107 rfl ?_
            refine f_iconst hZ dX7_count_108 ?_
            refine f_ine (tgt := 119) hZ dX7_count_109 rfl (by omega) (by omega) (fun h109 => ?_) (fun h109 => ?_)
            · refine f_iload_n hZ dX7_count_119 rfl ?_
              refine f_iconst hZ dX7_count_120 ?_
              refine f_ine (tgt := 131) hZ dX7_count_121 rfl (by omega) (by omega) (fun h121 => ?_) (fun h121 => ?_)
              · exfalso; omega
              · refine f_aload_n hZ dX7_count_124 rfl ?_
                refine gX7_151 hZ dX7_count_125 (fun r125 => ?_)
                refine f_goto (tgt := 145) hZ dX7_count_128 rfl ?_
                exact f_retI hZ hR dX7_count_145 rfl (by omega) (by have hwe : w = M 59 12 := (by omega); subst hwe; exact ⟨rfl, rfl⟩)
            · exfalso; omega
          · exfalso; omega
        · exfalso; omega
      | succ m ih =>
        intro w h0 hw
        have hOw : 0 ≤ sumZ (litO (M 66)) w ∧ sumZ (litO (M 66)) w ≤ 4 := by
          have := sumZ_bd (f := litO (M 66)) (a := 0) (b := 1) (by omega) (by omega) h0 (fun i _ _ => by unfold litO; split <;> omega)
          omega
        have hOp : 0 ≤ sumZ (M 65) w ∧ sumZ (M 65) w ≤ 400 := by
          have := sumZ_bd (f := M 65) (a := 0) (b := 99) (by omega) (by omega) h0 (fun i h2 h3 => (hA i h2 (by omega)).2.2.1)
          omega
        refine f_iload hZ dX7_count_22 rfl ?_
        refine f_aload_n hZ dX7_count_24 rfl ?_
        refine gX7_110 hZ dX7_count_25 (fun r25 => ?_)
        refine f_ige (tgt := 65) hZ dX7_count_28 rfl (by omega) (by omega) (fun h28 => ?_) (fun h28 => ?_)
        · exfalso; omega
        · refine f_iload_n hZ dX7_count_31 rfl ?_
          refine f_aload_n hZ dX7_count_32 rfl ?_
          refine gX7_32 hZ dX7_count_33 ?_
          refine f_iload hZ dX7_count_36 rfl ?_
          refine f_iaload hZ dX7_count_38 (by first | rfl | exact hC.t1 | exact hC.t2 | exact hC.t3 | exact hC.t4 | exact hC.t5) (by first | rfl | exact hC.l1 | exact hC.l2 | exact hC.l3 | exact hC.l4 | exact hC.l5) (by omega) (by omega) (fun r38 => ?_)
          refine f_le (tgt := 46) hZ dX7_count_39 rfl (by omega) (fun h39 => ?_) (fun h39 => ?_)
          · refine f_iconst hZ dX7_count_46 ?_
            refine f_iadd hZ dX7_count_47 ?_
            refine f_istore_n (L' := [_, _, _, _, _]) hZ dX7_count_48 rfl rfl ?_
            refine f_iload_n hZ dX7_count_49 rfl ?_
            refine f_aload_n hZ dX7_count_50 rfl ?_
            refine gX7_29 hZ dX7_count_51 ?_
            refine f_iload hZ dX7_count_54 rfl ?_
            refine f_iaload hZ dX7_count_56 (by first | rfl | exact hC.t1 | exact hC.t2 | exact hC.t3 | exact hC.t4 | exact hC.t5) (by first | rfl | exact hC.l1 | exact hC.l2 | exact hC.l3 | exact hC.l4 | exact hC.l5) (by omega) (by omega) (fun r56 => ?_)
            refine f_iadd hZ dX7_count_57 ?_
            refine f_istore_n (L' := [_, _, _, _, _]) hZ dX7_count_58 rfl rfl ?_
            refine f_iinc (L' := [_, _, _, _, _]) hZ dX7_count_59 rfl rfl ?_
            refine f_goto (tgt := 22) hZ dX7_count_62 rfl ?_
            have hh := ih (w + 1) (by omega) (by omega)
            rw [sumZ_succ _ (by omega), sumZ_succ _ (by omega)] at hh
            first | (rw [show litO (M 66) w = 1 from if_pos (by omega)] at hh; exact hh) | (rw [show litO (M 66) w = 0 from if_neg (by omega)] at hh; exact hh)
          · refine f_iconst hZ dX7_count_42 ?_
            refine f_goto (tgt := 47) hZ dX7_count_43 rfl ?_
            refine f_iadd hZ dX7_count_47 ?_
            refine f_istore_n (L' := [_, _, _, _, _]) hZ dX7_count_48 rfl rfl ?_
            refine f_iload_n hZ dX7_count_49 rfl ?_
            refine f_aload_n hZ dX7_count_50 rfl ?_
            refine gX7_29 hZ dX7_count_51 ?_
            refine f_iload hZ dX7_count_54 rfl ?_
            refine f_iaload hZ dX7_count_56 (by first | rfl | exact hC.t1 | exact hC.t2 | exact hC.t3 | exact hC.t4 | exact hC.t5) (by first | rfl | exact hC.l1 | exact hC.l2 | exact hC.l3 | exact hC.l4 | exact hC.l5) (by omega) (by omega) (fun r56 => ?_)
            refine f_iadd hZ dX7_count_57 ?_
            refine f_istore_n (L' := [_, _, _, _, _]) hZ dX7_count_58 rfl rfl ?_
            refine f_iinc (L' := [_, _, _, _, _]) hZ dX7_count_59 rfl rfl ?_
            refine f_goto (tgt := 22) hZ dX7_count_62 rfl ?_
            have hh := ih (w + 1) (by omega) (by omega)
            rw [sumZ_succ _ (by omega), sumZ_succ _ (by omega)] at hh
            first | (rw [show litO (M 66) w = 1 from if_pos (by omega)] at hh; exact hh) | (rw [show litO (M 66) w = 0 from if_neg (by omega)] at hh; exact hh)
    refine f_iload_n hZ dX7_count_0 rfl ?_
    refine f_i2l hZ dX7_count_1 (by omega) ?_
    refine f_lconst0 hZ dX7_count_2 ?_
    refine f_ldc2 (v := (7 : Int64)) hZ (7) dX7_count_3 (tb_in 1257 (by decide +kernel) (by decide +kernel)) (by decide) ?_
    refine sX7_113 hZ dX7_count_6 (t_X7_in (by omega) (by omega) (by omega)) (fun a6 M6 r6 h6 => ?_)
    obtain ⟨e6, h6⟩ := h6
    replace e6 := e6.symm
    subst e6
    refine f_ne (tgt := 15) hZ dX7_count_9 rfl (by omega) (fun h9 => ?_) (fun h9 => ?_)
    · refine f_iconst hZ dX7_count_15 ?_
      refine f_istore_n (L' := [_, _, _, _, _]) hZ dX7_count_16 rfl rfl ?_
      refine f_iconst hZ dX7_count_17 ?_
      refine f_istore_n (L' := [_, _, _, _, _]) hZ dX7_count_18 rfl rfl ?_
      refine f_iconst hZ dX7_count_19 ?_
      refine f_istore (L' := [_, _, _, _, _]) hZ dX7_count_20 rfl rfl ?_
      exact loop (M 59 12).toNat 0 (by omega) (by omega)
    · exfalso; omega
  · have loop : ∀ (m : Nat) (w : Int), 0 ≤ w → w + m = M 59 12 → fG X mX7_count Z 22 [.ref (xa X 59), .int (iv 6), .int (iv (sumZ (litO (M 66)) w)), .int (iv (sumZ (M 65) w)), .int (iv w)] [] M := by
      intro m
      induction m with
      | zero =>
        intro w h0 hw
        have hOw : 0 ≤ sumZ (litO (M 66)) w ∧ sumZ (litO (M 66)) w ≤ 4 := by
          have := sumZ_bd (f := litO (M 66)) (a := 0) (b := 1) (by omega) (by omega) h0 (fun i _ _ => by unfold litO; split <;> omega)
          omega
        have hOp : 0 ≤ sumZ (M 65) w ∧ sumZ (M 65) w ≤ 400 := by
          have := sumZ_bd (f := M 65) (a := 0) (b := 99) (by omega) (by omega) h0 (fun i h2 h3 => (hA i h2 (by omega)).2.2.1)
          omega
        refine f_iload hZ dX7_count_22 rfl ?_
        refine f_aload_n hZ dX7_count_24 rfl ?_
        refine gX7_110 hZ dX7_count_25 (fun r25 => ?_)
        refine f_ige (tgt := 65) hZ dX7_count_28 rfl (by omega) (by omega) (fun h28 => ?_) (fun h28 => ?_)
        · refine f_iload_n hZ dX7_count_65 rfl ?_
          refine f_iconst hZ dX7_count_66 ?_
          refine f_ige (tgt := 107) hZ dX7_count_67 rfl (by omega) (by omega) (fun h67 => ?_) (fun h67 => ?_)
          · refine f_iload_n hZ dX7_count_107 rfl ?_
            refine f_iconst hZ dX7_count_108 ?_
            refine f_ine (tgt := 119) hZ dX7_count_109 rfl (by omega) (by omega) (fun h109 => ?_) (fun h109 => ?_)
            · refine f_iload_n hZ dX7_count_119 rfl ?_
              refine f_iconst hZ dX7_count_120 ?_
              refine f_ine (tgt := 131) hZ dX7_count_121 rfl (by omega) (by omega) (fun h121 => ?_) (fun h121 => ?_)
              · refine f_iload_n hZ dX7_count_131 rfl ?_
                refine f_bipush hZ dX7_count_132 ?_
                refine f_ine (tgt := 144) hZ dX7_count_134 rfl (by omega) (by omega) (fun h134 => ?_) (fun h134 => ?_)
                · exfalso; omega
                · refine f_aload_n hZ dX7_count_137 rfl ?_
                  refine gX7_269 hZ dX7_count_138 (fun r138 => ?_)
                  refine f_goto (tgt := 145) hZ dX7_count_141 rfl ?_
                  exact f_retI hZ hR dX7_count_145 rfl (by omega) (by have hwe : w = M 59 12 := (by omega); subst hwe; exact ⟨rfl, rfl⟩)
              · exfalso; omega
            · exfalso; omega
          · exfalso; omega
        · exfalso; omega
      | succ m ih =>
        intro w h0 hw
        have hOw : 0 ≤ sumZ (litO (M 66)) w ∧ sumZ (litO (M 66)) w ≤ 4 := by
          have := sumZ_bd (f := litO (M 66)) (a := 0) (b := 1) (by omega) (by omega) h0 (fun i _ _ => by unfold litO; split <;> omega)
          omega
        have hOp : 0 ≤ sumZ (M 65) w ∧ sumZ (M 65) w ≤ 400 := by
          have := sumZ_bd (f := M 65) (a := 0) (b := 99) (by omega) (by omega) h0 (fun i h2 h3 => (hA i h2 (by omega)).2.2.1)
          omega
        refine f_iload hZ dX7_count_22 rfl ?_
        refine f_aload_n hZ dX7_count_24 rfl ?_
        refine gX7_110 hZ dX7_count_25 (fun r25 => ?_)
        refine f_ige (tgt := 65) hZ dX7_count_28 rfl (by omega) (by omega) (fun h28 => ?_) (fun h28 => ?_)
        · exfalso; omega
        · refine f_iload_n hZ dX7_count_31 rfl ?_
          refine f_aload_n hZ dX7_count_32 rfl ?_
          refine gX7_32 hZ dX7_count_33 ?_
          refine f_iload hZ dX7_count_36 rfl ?_
          refine f_iaload hZ dX7_count_38 (by first | rfl | exact hC.t1 | exact hC.t2 | exact hC.t3 | exact hC.t4 | exact hC.t5) (by first | rfl | exact hC.l1 | exact hC.l2 | exact hC.l3 | exact hC.l4 | exact hC.l5) (by omega) (by omega) (fun r38 => ?_)
          refine f_le (tgt := 46) hZ dX7_count_39 rfl (by omega) (fun h39 => ?_) (fun h39 => ?_)
          · refine f_iconst hZ dX7_count_46 ?_
            refine f_iadd hZ dX7_count_47 ?_
            refine f_istore_n (L' := [_, _, _, _, _]) hZ dX7_count_48 rfl rfl ?_
            refine f_iload_n hZ dX7_count_49 rfl ?_
            refine f_aload_n hZ dX7_count_50 rfl ?_
            refine gX7_29 hZ dX7_count_51 ?_
            refine f_iload hZ dX7_count_54 rfl ?_
            refine f_iaload hZ dX7_count_56 (by first | rfl | exact hC.t1 | exact hC.t2 | exact hC.t3 | exact hC.t4 | exact hC.t5) (by first | rfl | exact hC.l1 | exact hC.l2 | exact hC.l3 | exact hC.l4 | exact hC.l5) (by omega) (by omega) (fun r56 => ?_)
            refine f_iadd hZ dX7_count_57 ?_
            refine f_istore_n (L' := [_, _, _, _, _]) hZ dX7_count_58 rfl rfl ?_
            refine f_iinc (L' := [_, _, _, _, _]) hZ dX7_count_59 rfl rfl ?_
            refine f_goto (tgt := 22) hZ dX7_count_62 rfl ?_
            have hh := ih (w + 1) (by omega) (by omega)
            rw [sumZ_succ _ (by omega), sumZ_succ _ (by omega)] at hh
            first | (rw [show litO (M 66) w = 1 from if_pos (by omega)] at hh; exact hh) | (rw [show litO (M 66) w = 0 from if_neg (by omega)] at hh; exact hh)
          · refine f_iconst hZ dX7_count_42 ?_
            refine f_goto (tgt := 47) hZ dX7_count_43 rfl ?_
            refine f_iadd hZ dX7_count_47 ?_
            refine f_istore_n (L' := [_, _, _, _, _]) hZ dX7_count_48 rfl rfl ?_
            refine f_iload_n hZ dX7_count_49 rfl ?_
            refine f_aload_n hZ dX7_count_50 rfl ?_
            refine gX7_29 hZ dX7_count_51 ?_
            refine f_iload hZ dX7_count_54 rfl ?_
            refine f_iaload hZ dX7_count_56 (by first | rfl | exact hC.t1 | exact hC.t2 | exact hC.t3 | exact hC.t4 | exact hC.t5) (by first | rfl | exact hC.l1 | exact hC.l2 | exact hC.l3 | exact hC.l4 | exact hC.l5) (by omega) (by omega) (fun r56 => ?_)
            refine f_iadd hZ dX7_count_57 ?_
            refine f_istore_n (L' := [_, _, _, _, _]) hZ dX7_count_58 rfl rfl ?_
            refine f_iinc (L' := [_, _, _, _, _]) hZ dX7_count_59 rfl rfl ?_
            refine f_goto (tgt := 22) hZ dX7_count_62 rfl ?_
            have hh := ih (w + 1) (by omega) (by omega)
            rw [sumZ_succ _ (by omega), sumZ_succ _ (by omega)] at hh
            first | (rw [show litO (M 66) w = 1 from if_pos (by omega)] at hh; exact hh) | (rw [show litO (M 66) w = 0 from if_neg (by omega)] at hh; exact hh)
    refine f_iload_n hZ dX7_count_0 rfl ?_
    refine f_i2l hZ dX7_count_1 (by omega) ?_
    refine f_lconst0 hZ dX7_count_2 ?_
    refine f_ldc2 (v := (7 : Int64)) hZ (7) dX7_count_3 (tb_in 1257 (by decide +kernel) (by decide +kernel)) (by decide) ?_
    refine sX7_113 hZ dX7_count_6 (t_X7_in (by omega) (by omega) (by omega)) (fun a6 M6 r6 h6 => ?_)
    obtain ⟨e6, h6⟩ := h6
    replace e6 := e6.symm
    subst e6
    refine f_ne (tgt := 15) hZ dX7_count_9 rfl (by omega) (fun h9 => ?_) (fun h9 => ?_)
    · refine f_iconst hZ dX7_count_15 ?_
      refine f_istore_n (L' := [_, _, _, _, _]) hZ dX7_count_16 rfl rfl ?_
      refine f_iconst hZ dX7_count_17 ?_
      refine f_istore_n (L' := [_, _, _, _, _]) hZ dX7_count_18 rfl rfl ?_
      refine f_iconst hZ dX7_count_19 ?_
      refine f_istore (L' := [_, _, _, _, _]) hZ dX7_count_20 rfl rfl ?_
      exact loop (M 59 12).toNat 0 (by omega) (by omega)
    · exfalso; omega
  · have loop : ∀ (m : Nat) (w : Int), 0 ≤ w → w + m = M 59 12 → fG X mX7_count Z 22 [.ref (xa X 59), .int (iv 7), .int (iv (sumZ (litO (M 66)) w)), .int (iv (sumZ (M 65) w)), .int (iv w)] [] M := by
      intro m
      induction m with
      | zero =>
        intro w h0 hw
        have hOw : 0 ≤ sumZ (litO (M 66)) w ∧ sumZ (litO (M 66)) w ≤ 4 := by
          have := sumZ_bd (f := litO (M 66)) (a := 0) (b := 1) (by omega) (by omega) h0 (fun i _ _ => by unfold litO; split <;> omega)
          omega
        have hOp : 0 ≤ sumZ (M 65) w ∧ sumZ (M 65) w ≤ 400 := by
          have := sumZ_bd (f := M 65) (a := 0) (b := 99) (by omega) (by omega) h0 (fun i h2 h3 => (hA i h2 (by omega)).2.2.1)
          omega
        refine f_iload hZ dX7_count_22 rfl ?_
        refine f_aload_n hZ dX7_count_24 rfl ?_
        refine gX7_110 hZ dX7_count_25 (fun r25 => ?_)
        refine f_ige (tgt := 65) hZ dX7_count_28 rfl (by omega) (by omega) (fun h28 => ?_) (fun h28 => ?_)
        · refine f_iload_n hZ dX7_count_65 rfl ?_
          refine f_iconst hZ dX7_count_66 ?_
          refine f_ige (tgt := 107) hZ dX7_count_67 rfl (by omega) (by omega) (fun h67 => ?_) (fun h67 => ?_)
          · refine f_iload_n hZ dX7_count_107 rfl ?_
            refine f_iconst hZ dX7_count_108 ?_
            refine f_ine (tgt := 119) hZ dX7_count_109 rfl (by omega) (by omega) (fun h109 => ?_) (fun h109 => ?_)
            · refine f_iload_n hZ dX7_count_119 rfl ?_
              refine f_iconst hZ dX7_count_120 ?_
              refine f_ine (tgt := 131) hZ dX7_count_121 rfl (by omega) (by omega) (fun h121 => ?_) (fun h121 => ?_)
              · refine f_iload_n hZ dX7_count_131 rfl ?_
                refine f_bipush hZ dX7_count_132 ?_
                refine f_ine (tgt := 144) hZ dX7_count_134 rfl (by omega) (by omega) (fun h134 => ?_) (fun h134 => ?_)
                · refine f_iload_n hZ dX7_count_144 rfl ?_
                  exact f_retI hZ hR dX7_count_145 rfl (by omega) (by have hwe : w = M 59 12 := (by omega); subst hwe; exact ⟨rfl, rfl⟩)
                · exfalso; omega
              · exfalso; omega
            · exfalso; omega
          · exfalso; omega
        · exfalso; omega
      | succ m ih =>
        intro w h0 hw
        have hOw : 0 ≤ sumZ (litO (M 66)) w ∧ sumZ (litO (M 66)) w ≤ 4 := by
          have := sumZ_bd (f := litO (M 66)) (a := 0) (b := 1) (by omega) (by omega) h0 (fun i _ _ => by unfold litO; split <;> omega)
          omega
        have hOp : 0 ≤ sumZ (M 65) w ∧ sumZ (M 65) w ≤ 400 := by
          have := sumZ_bd (f := M 65) (a := 0) (b := 99) (by omega) (by omega) h0 (fun i h2 h3 => (hA i h2 (by omega)).2.2.1)
          omega
        refine f_iload hZ dX7_count_22 rfl ?_
        refine f_aload_n hZ dX7_count_24 rfl ?_
        refine gX7_110 hZ dX7_count_25 (fun r25 => ?_)
        refine f_ige (tgt := 65) hZ dX7_count_28 rfl (by omega) (by omega) (fun h28 => ?_) (fun h28 => ?_)
        · exfalso; omega
        · refine f_iload_n hZ dX7_count_31 rfl ?_
          refine f_aload_n hZ dX7_count_32 rfl ?_
          refine gX7_32 hZ dX7_count_33 ?_
          refine f_iload hZ dX7_count_36 rfl ?_
          refine f_iaload hZ dX7_count_38 (by first | rfl | exact hC.t1 | exact hC.t2 | exact hC.t3 | exact hC.t4 | exact hC.t5) (by first | rfl | exact hC.l1 | exact hC.l2 | exact hC.l3 | exact hC.l4 | exact hC.l5) (by omega) (by omega) (fun r38 => ?_)
          refine f_le (tgt := 46) hZ dX7_count_39 rfl (by omega) (fun h39 => ?_) (fun h39 => ?_)
          · refine f_iconst hZ dX7_count_46 ?_
            refine f_iadd hZ dX7_count_47 ?_
            refine f_istore_n (L' := [_, _, _, _, _]) hZ dX7_count_48 rfl rfl ?_
            refine f_iload_n hZ dX7_count_49 rfl ?_
            refine f_aload_n hZ dX7_count_50 rfl ?_
            refine gX7_29 hZ dX7_count_51 ?_
            refine f_iload hZ dX7_count_54 rfl ?_
            refine f_iaload hZ dX7_count_56 (by first | rfl | exact hC.t1 | exact hC.t2 | exact hC.t3 | exact hC.t4 | exact hC.t5) (by first | rfl | exact hC.l1 | exact hC.l2 | exact hC.l3 | exact hC.l4 | exact hC.l5) (by omega) (by omega) (fun r56 => ?_)
            refine f_iadd hZ dX7_count_57 ?_
            refine f_istore_n (L' := [_, _, _, _, _]) hZ dX7_count_58 rfl rfl ?_
            refine f_iinc (L' := [_, _, _, _, _]) hZ dX7_count_59 rfl rfl ?_
            refine f_goto (tgt := 22) hZ dX7_count_62 rfl ?_
            have hh := ih (w + 1) (by omega) (by omega)
            rw [sumZ_succ _ (by omega), sumZ_succ _ (by omega)] at hh
            first | (rw [show litO (M 66) w = 1 from if_pos (by omega)] at hh; exact hh) | (rw [show litO (M 66) w = 0 from if_neg (by omega)] at hh; exact hh)
          · refine f_iconst hZ dX7_count_42 ?_
            refine f_goto (tgt := 47) hZ dX7_count_43 rfl ?_
            refine f_iadd hZ dX7_count_47 ?_
            refine f_istore_n (L' := [_, _, _, _, _]) hZ dX7_count_48 rfl rfl ?_
            refine f_iload_n hZ dX7_count_49 rfl ?_
            refine f_aload_n hZ dX7_count_50 rfl ?_
            refine gX7_29 hZ dX7_count_51 ?_
            refine f_iload hZ dX7_count_54 rfl ?_
            refine f_iaload hZ dX7_count_56 (by first | rfl | exact hC.t1 | exact hC.t2 | exact hC.t3 | exact hC.t4 | exact hC.t5) (by first | rfl | exact hC.l1 | exact hC.l2 | exact hC.l3 | exact hC.l4 | exact hC.l5) (by omega) (by omega) (fun r56 => ?_)
            refine f_iadd hZ dX7_count_57 ?_
            refine f_istore_n (L' := [_, _, _, _, _]) hZ dX7_count_58 rfl rfl ?_
            refine f_iinc (L' := [_, _, _, _, _]) hZ dX7_count_59 rfl rfl ?_
            refine f_goto (tgt := 22) hZ dX7_count_62 rfl ?_
            have hh := ih (w + 1) (by omega) (by omega)
            rw [sumZ_succ _ (by omega), sumZ_succ _ (by omega)] at hh
            first | (rw [show litO (M 66) w = 1 from if_pos (by omega)] at hh; exact hh) | (rw [show litO (M 66) w = 0 from if_neg (by omega)] at hh; exact hh)
    refine f_iload_n hZ dX7_count_0 rfl ?_
    refine f_i2l hZ dX7_count_1 (by omega) ?_
    refine f_lconst0 hZ dX7_count_2 ?_
    refine f_ldc2 (v := (7 : Int64)) hZ (7) dX7_count_3 (tb_in 1257 (by decide +kernel) (by decide +kernel)) (by decide) ?_
    refine sX7_113 hZ dX7_count_6 (t_X7_in (by omega) (by omega) (by omega)) (fun a6 M6 r6 h6 => ?_)
    obtain ⟨e6, h6⟩ := h6
    replace e6 := e6.symm
    subst e6
    refine f_ne (tgt := 15) hZ dX7_count_9 rfl (by omega) (fun h9 => ?_) (fun h9 => ?_)
    · refine f_iconst hZ dX7_count_15 ?_
      refine f_istore_n (L' := [_, _, _, _, _]) hZ dX7_count_16 rfl rfl ?_
      refine f_iconst hZ dX7_count_17 ?_
      refine f_istore_n (L' := [_, _, _, _, _]) hZ dX7_count_18 rfl rfl ?_
      refine f_iconst hZ dX7_count_19 ?_
      refine f_istore (L' := [_, _, _, _, _]) hZ dX7_count_20 rfl rfl ?_
      exact loop (M 59 12).toNat 0 (by omega) (by omega)
    · exfalso; omega

abbrev overP (k r : Int) : Prop := (k = 0 ∧ r = -1) ∨ (k = 4 ∧ r = 2) ∨ ((k = 3 ∨ k = 5) ∧ r = 1) ∨ (k ≠ 0 ∧ k ≠ 4 ∧ k ≠ 3 ∧ k ≠ 5 ∧ r = 0)
set_option maxRecDepth 20000 in
set_option maxHeartbeats 4000000 in
theorem t_X7_over {X : fX} {M : fM} {d : Nat} {k : Int} (hk : rg k) : fC X d mX7_over [.int (iv k)] M (QI fun r M' => M' = M ∧ overP k r) := by
  refine fC.of (L := [_]) (by decide +kernel) rfl (Nat.le_of_ble_eq_true rfl) (fun Z hZ hR => ?_)
  refine f_iload_n hZ dX7_over_0 rfl ?_
  refine f_ne (tgt := 8) hZ dX7_over_1 rfl (by omega) (fun h1 => ?_) (fun h1 => ?_)
  · refine f_iload_n hZ dX7_over_8 rfl ?_
    refine f_iconst hZ dX7_over_9 ?_
    refine f_ine (tgt := 17) hZ dX7_over_10 rfl (by omega) (by omega) (fun h10 => ?_) (fun h10 => ?_)
    · refine f_iload_n hZ dX7_over_17 rfl ?_
      refine f_iconst hZ dX7_over_18 ?_
      refine f_ieq (tgt := 27) hZ dX7_over_19 rfl (by omega) (by omega) (fun h19 => ?_) (fun h19 => ?_)
      · refine f_iconst hZ dX7_over_27 ?_
        refine f_goto (tgt := 32) hZ dX7_over_28 rfl ?_
        exact f_retI hZ hR dX7_over_32 rfl (by omega) (by exact ⟨rfl, by omega⟩)
      · refine f_iload_n hZ dX7_over_22 rfl ?_
        refine f_iconst hZ dX7_over_23 ?_
        refine f_ine (tgt := 31) hZ dX7_over_24 rfl (by omega) (by omega) (fun h24 => ?_) (fun h24 => ?_)
        · refine f_iconst hZ dX7_over_31 ?_
          exact f_retI hZ hR dX7_over_32 rfl (by omega) (by exact ⟨rfl, by omega⟩)
        · refine f_iconst hZ dX7_over_27 ?_
          refine f_goto (tgt := 32) hZ dX7_over_28 rfl ?_
          exact f_retI hZ hR dX7_over_32 rfl (by omega) (by exact ⟨rfl, by omega⟩)
    · refine f_iconst hZ dX7_over_13 ?_
      refine f_goto (tgt := 32) hZ dX7_over_14 rfl ?_
      exact f_retI hZ hR dX7_over_32 rfl (by omega) (by exact ⟨rfl, by omega⟩)
  · refine f_iconst hZ dX7_over_4 ?_
    refine f_goto (tgt := 32) hZ dX7_over_5 rfl ?_
    exact f_retI hZ hR dX7_over_32 rfl (by omega) (by exact ⟨rfl, by omega⟩)

set_option maxRecDepth 20000 in
set_option maxHeartbeats 4000000 in
theorem t_X7_taken {X : fX} {M : fM} {d : Nat} {w k : Int} (hw : rg w) (hk : rg k) (hW : WfM M) : fC X (d + 2) mX7_taken [.ref (xa X 59), .int (iv w), .int (iv k)] M (QI fun r M' => M' = M ∧ takenP (M 59 12) (M 63) (M 64) w k r) := by
  obtain ⟨hn, hdm, hmo, hA⟩ := hW
  by_cases hb : 0 ≤ w ∧ w < M 59 12
  rotate_left
  · refine fC.of (L := [_, _, _, _]) (by decide +kernel) rfl (Nat.le_of_ble_eq_true rfl) (fun Z hZ hR => ?_)
    refine f_iload_n hZ dX7_taken_0 rfl ?_
    refine f_i2l hZ dX7_taken_1 (by omega) ?_
    refine f_lconst0 hZ dX7_taken_2 ?_
    refine f_ldc2 (v := (5 : Int64)) hZ (5) dX7_taken_3 (tb_in 1004 (by decide +kernel) (by decide +kernel)) (by decide) ?_
    refine sX7_113 hZ dX7_taken_6 (t_X7_in (by omega) (by omega) (by omega)) (fun a6 M6 r6 h6 => ?_)
    obtain ⟨e6, h6⟩ := h6
    replace e6 := e6.symm
    subst e6
    refine f_ne (tgt := 15) hZ dX7_taken_9 rfl (by omega) (fun h9 => ?_) (fun h9 => ?_)
    · refine f_aload_n hZ dX7_taken_15 rfl ?_
      refine f_iload_n hZ dX7_taken_16 rfl ?_
      refine vX7_123 hZ dX7_taken_17 (t_X7_isWick (by omega) hn) (fun a17 M17 r17 h17 => ?_)
      obtain ⟨e17, h17⟩ := h17
      replace e17 := e17.symm
      subst e17
      refine f_ne (tgt := 26) hZ dX7_taken_20 rfl (by omega) (fun h20 => ?_) (fun h20 => ?_)
      · exfalso; omega
      · refine f_bipush hZ dX7_taken_23 ?_
        exact f_retI hZ hR dX7_taken_25 rfl (by omega) (by refine ⟨rfl, ?_⟩; first | exact Or.inl ⟨by omega, rfl⟩ | exact Or.inr (Or.inl ⟨by omega, by omega, rfl⟩) | exact Or.inr (Or.inr (Or.inl ⟨by omega, by omega, by rw [hkk]; omega, rfl⟩)) | exact Or.inr (Or.inr (Or.inr ⟨by omega, by omega, by rw [hkk]; omega, rfl⟩)))
    · refine f_bipush hZ dX7_taken_12 ?_
      exact f_retI hZ hR dX7_taken_14 rfl (by omega) (by refine ⟨rfl, ?_⟩; first | exact Or.inl ⟨by omega, rfl⟩ | exact Or.inr (Or.inl ⟨by omega, by omega, rfl⟩) | exact Or.inr (Or.inr (Or.inl ⟨by omega, by omega, by rw [hkk]; omega, rfl⟩)) | exact Or.inr (Or.inr (Or.inr ⟨by omega, by omega, by rw [hkk]; omega, rfl⟩)))
  have hq := hA w (by omega) (by omega)
  refine fC.of (L := [_, _, _, _]) (by decide +kernel) rfl (Nat.le_of_ble_eq_true rfl) (fun Z hZ hR => ?_)
  rcases (show M 63 w = 0 ∨ M 63 w = 1 ∨ M 63 w = 2 ∨ M 63 w = 3 ∨ M 63 w = 4 ∨ M 63 w = 5 by omega) with hkk | hkk | hkk | hkk | hkk | hkk
  · refine f_iload_n hZ dX7_taken_0 rfl ?_
    refine f_i2l hZ dX7_taken_1 (by omega) ?_
    refine f_lconst0 hZ dX7_taken_2 ?_
    refine f_ldc2 (v := (5 : Int64)) hZ (5) dX7_taken_3 (tb_in 1004 (by decide +kernel) (by decide +kernel)) (by decide) ?_
    refine sX7_113 hZ dX7_taken_6 (t_X7_in (by omega) (by omega) (by omega)) (fun a6 M6 r6 h6 => ?_)
    obtain ⟨e6, h6⟩ := h6
    replace e6 := e6.symm
    subst e6
    refine f_ne (tgt := 15) hZ dX7_taken_9 rfl (by omega) (fun h9 => ?_) (fun h9 => ?_)
    · refine f_aload_n hZ dX7_taken_15 rfl ?_
      refine f_iload_n hZ dX7_taken_16 rfl ?_
      refine vX7_123 hZ dX7_taken_17 (t_X7_isWick (by omega) hn) (fun a17 M17 r17 h17 => ?_)
      obtain ⟨e17, h17⟩ := h17
      replace e17 := e17.symm
      subst e17
      refine f_ne (tgt := 26) hZ dX7_taken_20 rfl (by omega) (fun h20 => ?_) (fun h20 => ?_)
      · refine f_aload_n hZ dX7_taken_26 rfl ?_
        refine gX7_23 hZ dX7_taken_27 ?_
        refine f_iload_n hZ dX7_taken_30 rfl ?_
        refine f_iaload hZ dX7_taken_31 (by first | rfl | exact hC.t1 | exact hC.t2 | exact hC.t3 | exact hC.t4 | exact hC.t5) (by first | rfl | exact hC.l1 | exact hC.l2 | exact hC.l3 | exact hC.l4 | exact hC.l5) (by omega) (by omega) (fun r31 => ?_)
        refine f_top (a := 0) hkk ?_
        refine f_istore_n (L' := [_, _, _, _]) hZ dX7_taken_32 rfl rfl ?_
        refine f_iload_n hZ dX7_taken_33 rfl ?_
        refine f_iconst hZ dX7_taken_34 ?_
        refine f_ieq (tgt := 51) hZ dX7_taken_35 rfl (by omega) (by omega) (fun h35 => ?_) (fun h35 => ?_)
        · exfalso; omega
        · refine f_iload_n hZ dX7_taken_38 rfl ?_
          refine f_iload_n hZ dX7_taken_39 rfl ?_
          refine f_ieq (tgt := 51) hZ dX7_taken_40 rfl (by omega) (by omega) (fun h40 => ?_) (fun h40 => ?_)
          · refine f_iload_n hZ dX7_taken_51 rfl ?_
            refine f_iload_n hZ dX7_taken_52 rfl ?_
            refine f_ine (tgt := 65) hZ dX7_taken_53 rfl (by omega) (by omega) (fun h53 => ?_) (fun h53 => ?_)
            · refine f_bipush hZ dX7_taken_65 ?_
              exact f_retI hZ hR dX7_taken_67 rfl (by omega) (by refine ⟨rfl, ?_⟩; first | exact Or.inl ⟨by omega, rfl⟩ | exact Or.inr (Or.inl ⟨by omega, by omega, rfl⟩) | exact Or.inr (Or.inr (Or.inl ⟨by omega, by omega, by rw [hkk]; omega, rfl⟩)) | exact Or.inr (Or.inr (Or.inr ⟨by omega, by omega, by rw [hkk]; omega, rfl⟩)))
            · refine f_aload_n hZ dX7_taken_56 rfl ?_
              refine gX7_26 hZ dX7_taken_57 ?_
              refine f_iload_n hZ dX7_taken_60 rfl ?_
              refine f_iaload hZ dX7_taken_61 (by first | rfl | exact hC.t1 | exact hC.t2 | exact hC.t3 | exact hC.t4 | exact hC.t5) (by first | rfl | exact hC.l1 | exact hC.l2 | exact hC.l3 | exact hC.l4 | exact hC.l5) (by omega) (by omega) (fun r61 => ?_)
              refine f_goto (tgt := 67) hZ dX7_taken_62 rfl ?_
              exact f_retI hZ hR dX7_taken_67 rfl (by omega) (by refine ⟨rfl, ?_⟩; first | exact Or.inl ⟨by omega, rfl⟩ | exact Or.inr (Or.inl ⟨by omega, by omega, rfl⟩) | exact Or.inr (Or.inr (Or.inl ⟨by omega, by omega, by rw [hkk]; omega, rfl⟩)) | exact Or.inr (Or.inr (Or.inr ⟨by omega, by omega, by rw [hkk]; omega, rfl⟩)))
          · refine f_iload_n hZ dX7_taken_43 rfl ?_
            refine sX7_379 hZ dX7_taken_44 (t_X7_over (by omega)) (fun a44 M44 r44 h44 => ?_)
            obtain ⟨e44, h44⟩ := h44
            replace e44 := e44.symm
            subst e44
            have hz44 : a44 = -1 := by omega
            subst hz44
            clear h44
            refine f_istore_n (L' := [_, _, _, _]) hZ dX7_taken_47 rfl rfl ?_
            refine f_goto (tgt := 33) hZ dX7_taken_48 rfl ?_
            refine f_iload_n hZ dX7_taken_33 rfl ?_
            refine f_iconst hZ dX7_taken_34 ?_
            refine f_ieq (tgt := 51) hZ dX7_taken_35 rfl (by omega) (by omega) (fun h35 => ?_) (fun h35 => ?_)
            · refine f_iload_n hZ dX7_taken_51 rfl ?_
              refine f_iload_n hZ dX7_taken_52 rfl ?_
              refine f_ine (tgt := 65) hZ dX7_taken_53 rfl (by omega) (by omega) (fun h53 => ?_) (fun h53 => ?_)
              · refine f_bipush hZ dX7_taken_65 ?_
                exact f_retI hZ hR dX7_taken_67 rfl (by omega) (by refine ⟨rfl, ?_⟩; first | exact Or.inl ⟨by omega, rfl⟩ | exact Or.inr (Or.inl ⟨by omega, by omega, rfl⟩) | exact Or.inr (Or.inr (Or.inl ⟨by omega, by omega, by rw [hkk]; omega, rfl⟩)) | exact Or.inr (Or.inr (Or.inr ⟨by omega, by omega, by rw [hkk]; omega, rfl⟩)))
              · refine f_aload_n hZ dX7_taken_56 rfl ?_
                refine gX7_26 hZ dX7_taken_57 ?_
                refine f_iload_n hZ dX7_taken_60 rfl ?_
                refine f_iaload hZ dX7_taken_61 (by first | rfl | exact hC.t1 | exact hC.t2 | exact hC.t3 | exact hC.t4 | exact hC.t5) (by first | rfl | exact hC.l1 | exact hC.l2 | exact hC.l3 | exact hC.l4 | exact hC.l5) (by omega) (by omega) (fun r61 => ?_)
                refine f_goto (tgt := 67) hZ dX7_taken_62 rfl ?_
                exact f_retI hZ hR dX7_taken_67 rfl (by omega) (by refine ⟨rfl, ?_⟩; first | exact Or.inl ⟨by omega, rfl⟩ | exact Or.inr (Or.inl ⟨by omega, by omega, rfl⟩) | exact Or.inr (Or.inr (Or.inl ⟨by omega, by omega, by rw [hkk]; omega, rfl⟩)) | exact Or.inr (Or.inr (Or.inr ⟨by omega, by omega, by rw [hkk]; omega, rfl⟩)))
            · exfalso; omega
      · refine f_bipush hZ dX7_taken_23 ?_
        exact f_retI hZ hR dX7_taken_25 rfl (by omega) (by refine ⟨rfl, ?_⟩; first | exact Or.inl ⟨by omega, rfl⟩ | exact Or.inr (Or.inl ⟨by omega, by omega, rfl⟩) | exact Or.inr (Or.inr (Or.inl ⟨by omega, by omega, by rw [hkk]; omega, rfl⟩)) | exact Or.inr (Or.inr (Or.inr ⟨by omega, by omega, by rw [hkk]; omega, rfl⟩)))
    · refine f_bipush hZ dX7_taken_12 ?_
      exact f_retI hZ hR dX7_taken_14 rfl (by omega) (by refine ⟨rfl, ?_⟩; first | exact Or.inl ⟨by omega, rfl⟩ | exact Or.inr (Or.inl ⟨by omega, by omega, rfl⟩) | exact Or.inr (Or.inr (Or.inl ⟨by omega, by omega, by rw [hkk]; omega, rfl⟩)) | exact Or.inr (Or.inr (Or.inr ⟨by omega, by omega, by rw [hkk]; omega, rfl⟩)))
  · refine f_iload_n hZ dX7_taken_0 rfl ?_
    refine f_i2l hZ dX7_taken_1 (by omega) ?_
    refine f_lconst0 hZ dX7_taken_2 ?_
    refine f_ldc2 (v := (5 : Int64)) hZ (5) dX7_taken_3 (tb_in 1004 (by decide +kernel) (by decide +kernel)) (by decide) ?_
    refine sX7_113 hZ dX7_taken_6 (t_X7_in (by omega) (by omega) (by omega)) (fun a6 M6 r6 h6 => ?_)
    obtain ⟨e6, h6⟩ := h6
    replace e6 := e6.symm
    subst e6
    refine f_ne (tgt := 15) hZ dX7_taken_9 rfl (by omega) (fun h9 => ?_) (fun h9 => ?_)
    · refine f_aload_n hZ dX7_taken_15 rfl ?_
      refine f_iload_n hZ dX7_taken_16 rfl ?_
      refine vX7_123 hZ dX7_taken_17 (t_X7_isWick (by omega) hn) (fun a17 M17 r17 h17 => ?_)
      obtain ⟨e17, h17⟩ := h17
      replace e17 := e17.symm
      subst e17
      refine f_ne (tgt := 26) hZ dX7_taken_20 rfl (by omega) (fun h20 => ?_) (fun h20 => ?_)
      · refine f_aload_n hZ dX7_taken_26 rfl ?_
        refine gX7_23 hZ dX7_taken_27 ?_
        refine f_iload_n hZ dX7_taken_30 rfl ?_
        refine f_iaload hZ dX7_taken_31 (by first | rfl | exact hC.t1 | exact hC.t2 | exact hC.t3 | exact hC.t4 | exact hC.t5) (by first | rfl | exact hC.l1 | exact hC.l2 | exact hC.l3 | exact hC.l4 | exact hC.l5) (by omega) (by omega) (fun r31 => ?_)
        refine f_top (a := 1) hkk ?_
        refine f_istore_n (L' := [_, _, _, _]) hZ dX7_taken_32 rfl rfl ?_
        refine f_iload_n hZ dX7_taken_33 rfl ?_
        refine f_iconst hZ dX7_taken_34 ?_
        refine f_ieq (tgt := 51) hZ dX7_taken_35 rfl (by omega) (by omega) (fun h35 => ?_) (fun h35 => ?_)
        · exfalso; omega
        · refine f_iload_n hZ dX7_taken_38 rfl ?_
          refine f_iload_n hZ dX7_taken_39 rfl ?_
          refine f_ieq (tgt := 51) hZ dX7_taken_40 rfl (by omega) (by omega) (fun h40 => ?_) (fun h40 => ?_)
          · refine f_iload_n hZ dX7_taken_51 rfl ?_
            refine f_iload_n hZ dX7_taken_52 rfl ?_
            refine f_ine (tgt := 65) hZ dX7_taken_53 rfl (by omega) (by omega) (fun h53 => ?_) (fun h53 => ?_)
            · refine f_bipush hZ dX7_taken_65 ?_
              exact f_retI hZ hR dX7_taken_67 rfl (by omega) (by refine ⟨rfl, ?_⟩; first | exact Or.inl ⟨by omega, rfl⟩ | exact Or.inr (Or.inl ⟨by omega, by omega, rfl⟩) | exact Or.inr (Or.inr (Or.inl ⟨by omega, by omega, by rw [hkk]; omega, rfl⟩)) | exact Or.inr (Or.inr (Or.inr ⟨by omega, by omega, by rw [hkk]; omega, rfl⟩)))
            · refine f_aload_n hZ dX7_taken_56 rfl ?_
              refine gX7_26 hZ dX7_taken_57 ?_
              refine f_iload_n hZ dX7_taken_60 rfl ?_
              refine f_iaload hZ dX7_taken_61 (by first | rfl | exact hC.t1 | exact hC.t2 | exact hC.t3 | exact hC.t4 | exact hC.t5) (by first | rfl | exact hC.l1 | exact hC.l2 | exact hC.l3 | exact hC.l4 | exact hC.l5) (by omega) (by omega) (fun r61 => ?_)
              refine f_goto (tgt := 67) hZ dX7_taken_62 rfl ?_
              exact f_retI hZ hR dX7_taken_67 rfl (by omega) (by refine ⟨rfl, ?_⟩; first | exact Or.inl ⟨by omega, rfl⟩ | exact Or.inr (Or.inl ⟨by omega, by omega, rfl⟩) | exact Or.inr (Or.inr (Or.inl ⟨by omega, by omega, by rw [hkk]; omega, rfl⟩)) | exact Or.inr (Or.inr (Or.inr ⟨by omega, by omega, by rw [hkk]; omega, rfl⟩)))
          · refine f_iload_n hZ dX7_taken_43 rfl ?_
            refine sX7_379 hZ dX7_taken_44 (t_X7_over (by omega)) (fun a44 M44 r44 h44 => ?_)
            obtain ⟨e44, h44⟩ := h44
            replace e44 := e44.symm
            subst e44
            have hz44 : a44 = 0 := by omega
            subst hz44
            clear h44
            refine f_istore_n (L' := [_, _, _, _]) hZ dX7_taken_47 rfl rfl ?_
            refine f_goto (tgt := 33) hZ dX7_taken_48 rfl ?_
            refine f_iload_n hZ dX7_taken_33 rfl ?_
            refine f_iconst hZ dX7_taken_34 ?_
            refine f_ieq (tgt := 51) hZ dX7_taken_35 rfl (by omega) (by omega) (fun h35 => ?_) (fun h35 => ?_)
            · exfalso; omega
            · refine f_iload_n hZ dX7_taken_38 rfl ?_
              refine f_iload_n hZ dX7_taken_39 rfl ?_
              refine f_ieq (tgt := 51) hZ dX7_taken_40 rfl (by omega) (by omega) (fun h40 => ?_) (fun h40 => ?_)
              · refine f_iload_n hZ dX7_taken_51 rfl ?_
                refine f_iload_n hZ dX7_taken_52 rfl ?_
                refine f_ine (tgt := 65) hZ dX7_taken_53 rfl (by omega) (by omega) (fun h53 => ?_) (fun h53 => ?_)
                · refine f_bipush hZ dX7_taken_65 ?_
                  exact f_retI hZ hR dX7_taken_67 rfl (by omega) (by refine ⟨rfl, ?_⟩; first | exact Or.inl ⟨by omega, rfl⟩ | exact Or.inr (Or.inl ⟨by omega, by omega, rfl⟩) | exact Or.inr (Or.inr (Or.inl ⟨by omega, by omega, by rw [hkk]; omega, rfl⟩)) | exact Or.inr (Or.inr (Or.inr ⟨by omega, by omega, by rw [hkk]; omega, rfl⟩)))
                · refine f_aload_n hZ dX7_taken_56 rfl ?_
                  refine gX7_26 hZ dX7_taken_57 ?_
                  refine f_iload_n hZ dX7_taken_60 rfl ?_
                  refine f_iaload hZ dX7_taken_61 (by first | rfl | exact hC.t1 | exact hC.t2 | exact hC.t3 | exact hC.t4 | exact hC.t5) (by first | rfl | exact hC.l1 | exact hC.l2 | exact hC.l3 | exact hC.l4 | exact hC.l5) (by omega) (by omega) (fun r61 => ?_)
                  refine f_goto (tgt := 67) hZ dX7_taken_62 rfl ?_
                  exact f_retI hZ hR dX7_taken_67 rfl (by omega) (by refine ⟨rfl, ?_⟩; first | exact Or.inl ⟨by omega, rfl⟩ | exact Or.inr (Or.inl ⟨by omega, by omega, rfl⟩) | exact Or.inr (Or.inr (Or.inl ⟨by omega, by omega, by rw [hkk]; omega, rfl⟩)) | exact Or.inr (Or.inr (Or.inr ⟨by omega, by omega, by rw [hkk]; omega, rfl⟩)))
              · refine f_iload_n hZ dX7_taken_43 rfl ?_
                refine sX7_379 hZ dX7_taken_44 (t_X7_over (by omega)) (fun a44 M44 r44 h44 => ?_)
                obtain ⟨e44, h44⟩ := h44
                replace e44 := e44.symm
                subst e44
                have hz44 : a44 = -1 := by omega
                subst hz44
                clear h44
                refine f_istore_n (L' := [_, _, _, _]) hZ dX7_taken_47 rfl rfl ?_
                refine f_goto (tgt := 33) hZ dX7_taken_48 rfl ?_
                refine f_iload_n hZ dX7_taken_33 rfl ?_
                refine f_iconst hZ dX7_taken_34 ?_
                refine f_ieq (tgt := 51) hZ dX7_taken_35 rfl (by omega) (by omega) (fun h35 => ?_) (fun h35 => ?_)
                · refine f_iload_n hZ dX7_taken_51 rfl ?_
                  refine f_iload_n hZ dX7_taken_52 rfl ?_
                  refine f_ine (tgt := 65) hZ dX7_taken_53 rfl (by omega) (by omega) (fun h53 => ?_) (fun h53 => ?_)
                  · refine f_bipush hZ dX7_taken_65 ?_
                    exact f_retI hZ hR dX7_taken_67 rfl (by omega) (by refine ⟨rfl, ?_⟩; first | exact Or.inl ⟨by omega, rfl⟩ | exact Or.inr (Or.inl ⟨by omega, by omega, rfl⟩) | exact Or.inr (Or.inr (Or.inl ⟨by omega, by omega, by rw [hkk]; omega, rfl⟩)) | exact Or.inr (Or.inr (Or.inr ⟨by omega, by omega, by rw [hkk]; omega, rfl⟩)))
                  · refine f_aload_n hZ dX7_taken_56 rfl ?_
                    refine gX7_26 hZ dX7_taken_57 ?_
                    refine f_iload_n hZ dX7_taken_60 rfl ?_
                    refine f_iaload hZ dX7_taken_61 (by first | rfl | exact hC.t1 | exact hC.t2 | exact hC.t3 | exact hC.t4 | exact hC.t5) (by first | rfl | exact hC.l1 | exact hC.l2 | exact hC.l3 | exact hC.l4 | exact hC.l5) (by omega) (by omega) (fun r61 => ?_)
                    refine f_goto (tgt := 67) hZ dX7_taken_62 rfl ?_
                    exact f_retI hZ hR dX7_taken_67 rfl (by omega) (by refine ⟨rfl, ?_⟩; first | exact Or.inl ⟨by omega, rfl⟩ | exact Or.inr (Or.inl ⟨by omega, by omega, rfl⟩) | exact Or.inr (Or.inr (Or.inl ⟨by omega, by omega, by rw [hkk]; omega, rfl⟩)) | exact Or.inr (Or.inr (Or.inr ⟨by omega, by omega, by rw [hkk]; omega, rfl⟩)))
                · exfalso; omega
      · refine f_bipush hZ dX7_taken_23 ?_
        exact f_retI hZ hR dX7_taken_25 rfl (by omega) (by refine ⟨rfl, ?_⟩; first | exact Or.inl ⟨by omega, rfl⟩ | exact Or.inr (Or.inl ⟨by omega, by omega, rfl⟩) | exact Or.inr (Or.inr (Or.inl ⟨by omega, by omega, by rw [hkk]; omega, rfl⟩)) | exact Or.inr (Or.inr (Or.inr ⟨by omega, by omega, by rw [hkk]; omega, rfl⟩)))
    · refine f_bipush hZ dX7_taken_12 ?_
      exact f_retI hZ hR dX7_taken_14 rfl (by omega) (by refine ⟨rfl, ?_⟩; first | exact Or.inl ⟨by omega, rfl⟩ | exact Or.inr (Or.inl ⟨by omega, by omega, rfl⟩) | exact Or.inr (Or.inr (Or.inl ⟨by omega, by omega, by rw [hkk]; omega, rfl⟩)) | exact Or.inr (Or.inr (Or.inr ⟨by omega, by omega, by rw [hkk]; omega, rfl⟩)))
  · refine f_iload_n hZ dX7_taken_0 rfl ?_
    refine f_i2l hZ dX7_taken_1 (by omega) ?_
    refine f_lconst0 hZ dX7_taken_2 ?_
    refine f_ldc2 (v := (5 : Int64)) hZ (5) dX7_taken_3 (tb_in 1004 (by decide +kernel) (by decide +kernel)) (by decide) ?_
    refine sX7_113 hZ dX7_taken_6 (t_X7_in (by omega) (by omega) (by omega)) (fun a6 M6 r6 h6 => ?_)
    obtain ⟨e6, h6⟩ := h6
    replace e6 := e6.symm
    subst e6
    refine f_ne (tgt := 15) hZ dX7_taken_9 rfl (by omega) (fun h9 => ?_) (fun h9 => ?_)
    · refine f_aload_n hZ dX7_taken_15 rfl ?_
      refine f_iload_n hZ dX7_taken_16 rfl ?_
      refine vX7_123 hZ dX7_taken_17 (t_X7_isWick (by omega) hn) (fun a17 M17 r17 h17 => ?_)
      obtain ⟨e17, h17⟩ := h17
      replace e17 := e17.symm
      subst e17
      refine f_ne (tgt := 26) hZ dX7_taken_20 rfl (by omega) (fun h20 => ?_) (fun h20 => ?_)
      · refine f_aload_n hZ dX7_taken_26 rfl ?_
        refine gX7_23 hZ dX7_taken_27 ?_
        refine f_iload_n hZ dX7_taken_30 rfl ?_
        refine f_iaload hZ dX7_taken_31 (by first | rfl | exact hC.t1 | exact hC.t2 | exact hC.t3 | exact hC.t4 | exact hC.t5) (by first | rfl | exact hC.l1 | exact hC.l2 | exact hC.l3 | exact hC.l4 | exact hC.l5) (by omega) (by omega) (fun r31 => ?_)
        refine f_top (a := 2) hkk ?_
        refine f_istore_n (L' := [_, _, _, _]) hZ dX7_taken_32 rfl rfl ?_
        refine f_iload_n hZ dX7_taken_33 rfl ?_
        refine f_iconst hZ dX7_taken_34 ?_
        refine f_ieq (tgt := 51) hZ dX7_taken_35 rfl (by omega) (by omega) (fun h35 => ?_) (fun h35 => ?_)
        · exfalso; omega
        · refine f_iload_n hZ dX7_taken_38 rfl ?_
          refine f_iload_n hZ dX7_taken_39 rfl ?_
          refine f_ieq (tgt := 51) hZ dX7_taken_40 rfl (by omega) (by omega) (fun h40 => ?_) (fun h40 => ?_)
          · refine f_iload_n hZ dX7_taken_51 rfl ?_
            refine f_iload_n hZ dX7_taken_52 rfl ?_
            refine f_ine (tgt := 65) hZ dX7_taken_53 rfl (by omega) (by omega) (fun h53 => ?_) (fun h53 => ?_)
            · refine f_bipush hZ dX7_taken_65 ?_
              exact f_retI hZ hR dX7_taken_67 rfl (by omega) (by refine ⟨rfl, ?_⟩; first | exact Or.inl ⟨by omega, rfl⟩ | exact Or.inr (Or.inl ⟨by omega, by omega, rfl⟩) | exact Or.inr (Or.inr (Or.inl ⟨by omega, by omega, by rw [hkk]; omega, rfl⟩)) | exact Or.inr (Or.inr (Or.inr ⟨by omega, by omega, by rw [hkk]; omega, rfl⟩)))
            · refine f_aload_n hZ dX7_taken_56 rfl ?_
              refine gX7_26 hZ dX7_taken_57 ?_
              refine f_iload_n hZ dX7_taken_60 rfl ?_
              refine f_iaload hZ dX7_taken_61 (by first | rfl | exact hC.t1 | exact hC.t2 | exact hC.t3 | exact hC.t4 | exact hC.t5) (by first | rfl | exact hC.l1 | exact hC.l2 | exact hC.l3 | exact hC.l4 | exact hC.l5) (by omega) (by omega) (fun r61 => ?_)
              refine f_goto (tgt := 67) hZ dX7_taken_62 rfl ?_
              exact f_retI hZ hR dX7_taken_67 rfl (by omega) (by refine ⟨rfl, ?_⟩; first | exact Or.inl ⟨by omega, rfl⟩ | exact Or.inr (Or.inl ⟨by omega, by omega, rfl⟩) | exact Or.inr (Or.inr (Or.inl ⟨by omega, by omega, by rw [hkk]; omega, rfl⟩)) | exact Or.inr (Or.inr (Or.inr ⟨by omega, by omega, by rw [hkk]; omega, rfl⟩)))
          · refine f_iload_n hZ dX7_taken_43 rfl ?_
            refine sX7_379 hZ dX7_taken_44 (t_X7_over (by omega)) (fun a44 M44 r44 h44 => ?_)
            obtain ⟨e44, h44⟩ := h44
            replace e44 := e44.symm
            subst e44
            have hz44 : a44 = 0 := by omega
            subst hz44
            clear h44
            refine f_istore_n (L' := [_, _, _, _]) hZ dX7_taken_47 rfl rfl ?_
            refine f_goto (tgt := 33) hZ dX7_taken_48 rfl ?_
            refine f_iload_n hZ dX7_taken_33 rfl ?_
            refine f_iconst hZ dX7_taken_34 ?_
            refine f_ieq (tgt := 51) hZ dX7_taken_35 rfl (by omega) (by omega) (fun h35 => ?_) (fun h35 => ?_)
            · exfalso; omega
            · refine f_iload_n hZ dX7_taken_38 rfl ?_
              refine f_iload_n hZ dX7_taken_39 rfl ?_
              refine f_ieq (tgt := 51) hZ dX7_taken_40 rfl (by omega) (by omega) (fun h40 => ?_) (fun h40 => ?_)
              · refine f_iload_n hZ dX7_taken_51 rfl ?_
                refine f_iload_n hZ dX7_taken_52 rfl ?_
                refine f_ine (tgt := 65) hZ dX7_taken_53 rfl (by omega) (by omega) (fun h53 => ?_) (fun h53 => ?_)
                · refine f_bipush hZ dX7_taken_65 ?_
                  exact f_retI hZ hR dX7_taken_67 rfl (by omega) (by refine ⟨rfl, ?_⟩; first | exact Or.inl ⟨by omega, rfl⟩ | exact Or.inr (Or.inl ⟨by omega, by omega, rfl⟩) | exact Or.inr (Or.inr (Or.inl ⟨by omega, by omega, by rw [hkk]; omega, rfl⟩)) | exact Or.inr (Or.inr (Or.inr ⟨by omega, by omega, by rw [hkk]; omega, rfl⟩)))
                · refine f_aload_n hZ dX7_taken_56 rfl ?_
                  refine gX7_26 hZ dX7_taken_57 ?_
                  refine f_iload_n hZ dX7_taken_60 rfl ?_
                  refine f_iaload hZ dX7_taken_61 (by first | rfl | exact hC.t1 | exact hC.t2 | exact hC.t3 | exact hC.t4 | exact hC.t5) (by first | rfl | exact hC.l1 | exact hC.l2 | exact hC.l3 | exact hC.l4 | exact hC.l5) (by omega) (by omega) (fun r61 => ?_)
                  refine f_goto (tgt := 67) hZ dX7_taken_62 rfl ?_
                  exact f_retI hZ hR dX7_taken_67 rfl (by omega) (by refine ⟨rfl, ?_⟩; first | exact Or.inl ⟨by omega, rfl⟩ | exact Or.inr (Or.inl ⟨by omega, by omega, rfl⟩) | exact Or.inr (Or.inr (Or.inl ⟨by omega, by omega, by rw [hkk]; omega, rfl⟩)) | exact Or.inr (Or.inr (Or.inr ⟨by omega, by omega, by rw [hkk]; omega, rfl⟩)))
              · refine f_iload_n hZ dX7_taken_43 rfl ?_
                refine sX7_379 hZ dX7_taken_44 (t_X7_over (by omega)) (fun a44 M44 r44 h44 => ?_)
                obtain ⟨e44, h44⟩ := h44
                replace e44 := e44.symm
                subst e44
                have hz44 : a44 = -1 := by omega
                subst hz44
                clear h44
                refine f_istore_n (L' := [_, _, _, _]) hZ dX7_taken_47 rfl rfl ?_
                refine f_goto (tgt := 33) hZ dX7_taken_48 rfl ?_
                refine f_iload_n hZ dX7_taken_33 rfl ?_
                refine f_iconst hZ dX7_taken_34 ?_
                refine f_ieq (tgt := 51) hZ dX7_taken_35 rfl (by omega) (by omega) (fun h35 => ?_) (fun h35 => ?_)
                · refine f_iload_n hZ dX7_taken_51 rfl ?_
                  refine f_iload_n hZ dX7_taken_52 rfl ?_
                  refine f_ine (tgt := 65) hZ dX7_taken_53 rfl (by omega) (by omega) (fun h53 => ?_) (fun h53 => ?_)
                  · refine f_bipush hZ dX7_taken_65 ?_
                    exact f_retI hZ hR dX7_taken_67 rfl (by omega) (by refine ⟨rfl, ?_⟩; first | exact Or.inl ⟨by omega, rfl⟩ | exact Or.inr (Or.inl ⟨by omega, by omega, rfl⟩) | exact Or.inr (Or.inr (Or.inl ⟨by omega, by omega, by rw [hkk]; omega, rfl⟩)) | exact Or.inr (Or.inr (Or.inr ⟨by omega, by omega, by rw [hkk]; omega, rfl⟩)))
                  · refine f_aload_n hZ dX7_taken_56 rfl ?_
                    refine gX7_26 hZ dX7_taken_57 ?_
                    refine f_iload_n hZ dX7_taken_60 rfl ?_
                    refine f_iaload hZ dX7_taken_61 (by first | rfl | exact hC.t1 | exact hC.t2 | exact hC.t3 | exact hC.t4 | exact hC.t5) (by first | rfl | exact hC.l1 | exact hC.l2 | exact hC.l3 | exact hC.l4 | exact hC.l5) (by omega) (by omega) (fun r61 => ?_)
                    refine f_goto (tgt := 67) hZ dX7_taken_62 rfl ?_
                    exact f_retI hZ hR dX7_taken_67 rfl (by omega) (by refine ⟨rfl, ?_⟩; first | exact Or.inl ⟨by omega, rfl⟩ | exact Or.inr (Or.inl ⟨by omega, by omega, rfl⟩) | exact Or.inr (Or.inr (Or.inl ⟨by omega, by omega, by rw [hkk]; omega, rfl⟩)) | exact Or.inr (Or.inr (Or.inr ⟨by omega, by omega, by rw [hkk]; omega, rfl⟩)))
                · exfalso; omega
      · refine f_bipush hZ dX7_taken_23 ?_
        exact f_retI hZ hR dX7_taken_25 rfl (by omega) (by refine ⟨rfl, ?_⟩; first | exact Or.inl ⟨by omega, rfl⟩ | exact Or.inr (Or.inl ⟨by omega, by omega, rfl⟩) | exact Or.inr (Or.inr (Or.inl ⟨by omega, by omega, by rw [hkk]; omega, rfl⟩)) | exact Or.inr (Or.inr (Or.inr ⟨by omega, by omega, by rw [hkk]; omega, rfl⟩)))
    · refine f_bipush hZ dX7_taken_12 ?_
      exact f_retI hZ hR dX7_taken_14 rfl (by omega) (by refine ⟨rfl, ?_⟩; first | exact Or.inl ⟨by omega, rfl⟩ | exact Or.inr (Or.inl ⟨by omega, by omega, rfl⟩) | exact Or.inr (Or.inr (Or.inl ⟨by omega, by omega, by rw [hkk]; omega, rfl⟩)) | exact Or.inr (Or.inr (Or.inr ⟨by omega, by omega, by rw [hkk]; omega, rfl⟩)))
  · refine f_iload_n hZ dX7_taken_0 rfl ?_
    refine f_i2l hZ dX7_taken_1 (by omega) ?_
    refine f_lconst0 hZ dX7_taken_2 ?_
    refine f_ldc2 (v := (5 : Int64)) hZ (5) dX7_taken_3 (tb_in 1004 (by decide +kernel) (by decide +kernel)) (by decide) ?_
    refine sX7_113 hZ dX7_taken_6 (t_X7_in (by omega) (by omega) (by omega)) (fun a6 M6 r6 h6 => ?_)
    obtain ⟨e6, h6⟩ := h6
    replace e6 := e6.symm
    subst e6
    refine f_ne (tgt := 15) hZ dX7_taken_9 rfl (by omega) (fun h9 => ?_) (fun h9 => ?_)
    · refine f_aload_n hZ dX7_taken_15 rfl ?_
      refine f_iload_n hZ dX7_taken_16 rfl ?_
      refine vX7_123 hZ dX7_taken_17 (t_X7_isWick (by omega) hn) (fun a17 M17 r17 h17 => ?_)
      obtain ⟨e17, h17⟩ := h17
      replace e17 := e17.symm
      subst e17
      refine f_ne (tgt := 26) hZ dX7_taken_20 rfl (by omega) (fun h20 => ?_) (fun h20 => ?_)
      · refine f_aload_n hZ dX7_taken_26 rfl ?_
        refine gX7_23 hZ dX7_taken_27 ?_
        refine f_iload_n hZ dX7_taken_30 rfl ?_
        refine f_iaload hZ dX7_taken_31 (by first | rfl | exact hC.t1 | exact hC.t2 | exact hC.t3 | exact hC.t4 | exact hC.t5) (by first | rfl | exact hC.l1 | exact hC.l2 | exact hC.l3 | exact hC.l4 | exact hC.l5) (by omega) (by omega) (fun r31 => ?_)
        refine f_top (a := 3) hkk ?_
        refine f_istore_n (L' := [_, _, _, _]) hZ dX7_taken_32 rfl rfl ?_
        refine f_iload_n hZ dX7_taken_33 rfl ?_
        refine f_iconst hZ dX7_taken_34 ?_
        refine f_ieq (tgt := 51) hZ dX7_taken_35 rfl (by omega) (by omega) (fun h35 => ?_) (fun h35 => ?_)
        · exfalso; omega
        · refine f_iload_n hZ dX7_taken_38 rfl ?_
          refine f_iload_n hZ dX7_taken_39 rfl ?_
          refine f_ieq (tgt := 51) hZ dX7_taken_40 rfl (by omega) (by omega) (fun h40 => ?_) (fun h40 => ?_)
          · refine f_iload_n hZ dX7_taken_51 rfl ?_
            refine f_iload_n hZ dX7_taken_52 rfl ?_
            refine f_ine (tgt := 65) hZ dX7_taken_53 rfl (by omega) (by omega) (fun h53 => ?_) (fun h53 => ?_)
            · refine f_bipush hZ dX7_taken_65 ?_
              exact f_retI hZ hR dX7_taken_67 rfl (by omega) (by refine ⟨rfl, ?_⟩; first | exact Or.inl ⟨by omega, rfl⟩ | exact Or.inr (Or.inl ⟨by omega, by omega, rfl⟩) | exact Or.inr (Or.inr (Or.inl ⟨by omega, by omega, by rw [hkk]; omega, rfl⟩)) | exact Or.inr (Or.inr (Or.inr ⟨by omega, by omega, by rw [hkk]; omega, rfl⟩)))
            · refine f_aload_n hZ dX7_taken_56 rfl ?_
              refine gX7_26 hZ dX7_taken_57 ?_
              refine f_iload_n hZ dX7_taken_60 rfl ?_
              refine f_iaload hZ dX7_taken_61 (by first | rfl | exact hC.t1 | exact hC.t2 | exact hC.t3 | exact hC.t4 | exact hC.t5) (by first | rfl | exact hC.l1 | exact hC.l2 | exact hC.l3 | exact hC.l4 | exact hC.l5) (by omega) (by omega) (fun r61 => ?_)
              refine f_goto (tgt := 67) hZ dX7_taken_62 rfl ?_
              exact f_retI hZ hR dX7_taken_67 rfl (by omega) (by refine ⟨rfl, ?_⟩; first | exact Or.inl ⟨by omega, rfl⟩ | exact Or.inr (Or.inl ⟨by omega, by omega, rfl⟩) | exact Or.inr (Or.inr (Or.inl ⟨by omega, by omega, by rw [hkk]; omega, rfl⟩)) | exact Or.inr (Or.inr (Or.inr ⟨by omega, by omega, by rw [hkk]; omega, rfl⟩)))
          · refine f_iload_n hZ dX7_taken_43 rfl ?_
            refine sX7_379 hZ dX7_taken_44 (t_X7_over (by omega)) (fun a44 M44 r44 h44 => ?_)
            obtain ⟨e44, h44⟩ := h44
            replace e44 := e44.symm
            subst e44
            have hz44 : a44 = 1 := by omega
            subst hz44
            clear h44
            refine f_istore_n (L' := [_, _, _, _]) hZ dX7_taken_47 rfl rfl ?_
            refine f_goto (tgt := 33) hZ dX7_taken_48 rfl ?_
            refine f_iload_n hZ dX7_taken_33 rfl ?_
            refine f_iconst hZ dX7_taken_34 ?_
            refine f_ieq (tgt := 51) hZ dX7_taken_35 rfl (by omega) (by omega) (fun h35 => ?_) (fun h35 => ?_)
            · exfalso; omega
            · refine f_iload_n hZ dX7_taken_38 rfl ?_
              refine f_iload_n hZ dX7_taken_39 rfl ?_
              refine f_ieq (tgt := 51) hZ dX7_taken_40 rfl (by omega) (by omega) (fun h40 => ?_) (fun h40 => ?_)
              · refine f_iload_n hZ dX7_taken_51 rfl ?_
                refine f_iload_n hZ dX7_taken_52 rfl ?_
                refine f_ine (tgt := 65) hZ dX7_taken_53 rfl (by omega) (by omega) (fun h53 => ?_) (fun h53 => ?_)
                · refine f_bipush hZ dX7_taken_65 ?_
                  exact f_retI hZ hR dX7_taken_67 rfl (by omega) (by refine ⟨rfl, ?_⟩; first | exact Or.inl ⟨by omega, rfl⟩ | exact Or.inr (Or.inl ⟨by omega, by omega, rfl⟩) | exact Or.inr (Or.inr (Or.inl ⟨by omega, by omega, by rw [hkk]; omega, rfl⟩)) | exact Or.inr (Or.inr (Or.inr ⟨by omega, by omega, by rw [hkk]; omega, rfl⟩)))
                · refine f_aload_n hZ dX7_taken_56 rfl ?_
                  refine gX7_26 hZ dX7_taken_57 ?_
                  refine f_iload_n hZ dX7_taken_60 rfl ?_
                  refine f_iaload hZ dX7_taken_61 (by first | rfl | exact hC.t1 | exact hC.t2 | exact hC.t3 | exact hC.t4 | exact hC.t5) (by first | rfl | exact hC.l1 | exact hC.l2 | exact hC.l3 | exact hC.l4 | exact hC.l5) (by omega) (by omega) (fun r61 => ?_)
                  refine f_goto (tgt := 67) hZ dX7_taken_62 rfl ?_
                  exact f_retI hZ hR dX7_taken_67 rfl (by omega) (by refine ⟨rfl, ?_⟩; first | exact Or.inl ⟨by omega, rfl⟩ | exact Or.inr (Or.inl ⟨by omega, by omega, rfl⟩) | exact Or.inr (Or.inr (Or.inl ⟨by omega, by omega, by rw [hkk]; omega, rfl⟩)) | exact Or.inr (Or.inr (Or.inr ⟨by omega, by omega, by rw [hkk]; omega, rfl⟩)))
              · refine f_iload_n hZ dX7_taken_43 rfl ?_
                refine sX7_379 hZ dX7_taken_44 (t_X7_over (by omega)) (fun a44 M44 r44 h44 => ?_)
                obtain ⟨e44, h44⟩ := h44
                replace e44 := e44.symm
                subst e44
                have hz44 : a44 = 0 := by omega
                subst hz44
                clear h44
                refine f_istore_n (L' := [_, _, _, _]) hZ dX7_taken_47 rfl rfl ?_
                refine f_goto (tgt := 33) hZ dX7_taken_48 rfl ?_
                refine f_iload_n hZ dX7_taken_33 rfl ?_
                refine f_iconst hZ dX7_taken_34 ?_
                refine f_ieq (tgt := 51) hZ dX7_taken_35 rfl (by omega) (by omega) (fun h35 => ?_) (fun h35 => ?_)
                · exfalso; omega
                · refine f_iload_n hZ dX7_taken_38 rfl ?_
                  refine f_iload_n hZ dX7_taken_39 rfl ?_
                  refine f_ieq (tgt := 51) hZ dX7_taken_40 rfl (by omega) (by omega) (fun h40 => ?_) (fun h40 => ?_)
                  · refine f_iload_n hZ dX7_taken_51 rfl ?_
                    refine f_iload_n hZ dX7_taken_52 rfl ?_
                    refine f_ine (tgt := 65) hZ dX7_taken_53 rfl (by omega) (by omega) (fun h53 => ?_) (fun h53 => ?_)
                    · refine f_bipush hZ dX7_taken_65 ?_
                      exact f_retI hZ hR dX7_taken_67 rfl (by omega) (by refine ⟨rfl, ?_⟩; first | exact Or.inl ⟨by omega, rfl⟩ | exact Or.inr (Or.inl ⟨by omega, by omega, rfl⟩) | exact Or.inr (Or.inr (Or.inl ⟨by omega, by omega, by rw [hkk]; omega, rfl⟩)) | exact Or.inr (Or.inr (Or.inr ⟨by omega, by omega, by rw [hkk]; omega, rfl⟩)))
                    · refine f_aload_n hZ dX7_taken_56 rfl ?_
                      refine gX7_26 hZ dX7_taken_57 ?_
                      refine f_iload_n hZ dX7_taken_60 rfl ?_
                      refine f_iaload hZ dX7_taken_61 (by first | rfl | exact hC.t1 | exact hC.t2 | exact hC.t3 | exact hC.t4 | exact hC.t5) (by first | rfl | exact hC.l1 | exact hC.l2 | exact hC.l3 | exact hC.l4 | exact hC.l5) (by omega) (by omega) (fun r61 => ?_)
                      refine f_goto (tgt := 67) hZ dX7_taken_62 rfl ?_
                      exact f_retI hZ hR dX7_taken_67 rfl (by omega) (by refine ⟨rfl, ?_⟩; first | exact Or.inl ⟨by omega, rfl⟩ | exact Or.inr (Or.inl ⟨by omega, by omega, rfl⟩) | exact Or.inr (Or.inr (Or.inl ⟨by omega, by omega, by rw [hkk]; omega, rfl⟩)) | exact Or.inr (Or.inr (Or.inr ⟨by omega, by omega, by rw [hkk]; omega, rfl⟩)))
                  · refine f_iload_n hZ dX7_taken_43 rfl ?_
                    refine sX7_379 hZ dX7_taken_44 (t_X7_over (by omega)) (fun a44 M44 r44 h44 => ?_)
                    obtain ⟨e44, h44⟩ := h44
                    replace e44 := e44.symm
                    subst e44
                    have hz44 : a44 = -1 := by omega
                    subst hz44
                    clear h44
                    refine f_istore_n (L' := [_, _, _, _]) hZ dX7_taken_47 rfl rfl ?_
                    refine f_goto (tgt := 33) hZ dX7_taken_48 rfl ?_
                    refine f_iload_n hZ dX7_taken_33 rfl ?_
                    refine f_iconst hZ dX7_taken_34 ?_
                    refine f_ieq (tgt := 51) hZ dX7_taken_35 rfl (by omega) (by omega) (fun h35 => ?_) (fun h35 => ?_)
                    · refine f_iload_n hZ dX7_taken_51 rfl ?_
                      refine f_iload_n hZ dX7_taken_52 rfl ?_
                      refine f_ine (tgt := 65) hZ dX7_taken_53 rfl (by omega) (by omega) (fun h53 => ?_) (fun h53 => ?_)
                      · refine f_bipush hZ dX7_taken_65 ?_
                        exact f_retI hZ hR dX7_taken_67 rfl (by omega) (by refine ⟨rfl, ?_⟩; first | exact Or.inl ⟨by omega, rfl⟩ | exact Or.inr (Or.inl ⟨by omega, by omega, rfl⟩) | exact Or.inr (Or.inr (Or.inl ⟨by omega, by omega, by rw [hkk]; omega, rfl⟩)) | exact Or.inr (Or.inr (Or.inr ⟨by omega, by omega, by rw [hkk]; omega, rfl⟩)))
                      · refine f_aload_n hZ dX7_taken_56 rfl ?_
                        refine gX7_26 hZ dX7_taken_57 ?_
                        refine f_iload_n hZ dX7_taken_60 rfl ?_
                        refine f_iaload hZ dX7_taken_61 (by first | rfl | exact hC.t1 | exact hC.t2 | exact hC.t3 | exact hC.t4 | exact hC.t5) (by first | rfl | exact hC.l1 | exact hC.l2 | exact hC.l3 | exact hC.l4 | exact hC.l5) (by omega) (by omega) (fun r61 => ?_)
                        refine f_goto (tgt := 67) hZ dX7_taken_62 rfl ?_
                        exact f_retI hZ hR dX7_taken_67 rfl (by omega) (by refine ⟨rfl, ?_⟩; first | exact Or.inl ⟨by omega, rfl⟩ | exact Or.inr (Or.inl ⟨by omega, by omega, rfl⟩) | exact Or.inr (Or.inr (Or.inl ⟨by omega, by omega, by rw [hkk]; omega, rfl⟩)) | exact Or.inr (Or.inr (Or.inr ⟨by omega, by omega, by rw [hkk]; omega, rfl⟩)))
                    · exfalso; omega
      · refine f_bipush hZ dX7_taken_23 ?_
        exact f_retI hZ hR dX7_taken_25 rfl (by omega) (by refine ⟨rfl, ?_⟩; first | exact Or.inl ⟨by omega, rfl⟩ | exact Or.inr (Or.inl ⟨by omega, by omega, rfl⟩) | exact Or.inr (Or.inr (Or.inl ⟨by omega, by omega, by rw [hkk]; omega, rfl⟩)) | exact Or.inr (Or.inr (Or.inr ⟨by omega, by omega, by rw [hkk]; omega, rfl⟩)))
    · refine f_bipush hZ dX7_taken_12 ?_
      exact f_retI hZ hR dX7_taken_14 rfl (by omega) (by refine ⟨rfl, ?_⟩; first | exact Or.inl ⟨by omega, rfl⟩ | exact Or.inr (Or.inl ⟨by omega, by omega, rfl⟩) | exact Or.inr (Or.inr (Or.inl ⟨by omega, by omega, by rw [hkk]; omega, rfl⟩)) | exact Or.inr (Or.inr (Or.inr ⟨by omega, by omega, by rw [hkk]; omega, rfl⟩)))
  · refine f_iload_n hZ dX7_taken_0 rfl ?_
    refine f_i2l hZ dX7_taken_1 (by omega) ?_
    refine f_lconst0 hZ dX7_taken_2 ?_
    refine f_ldc2 (v := (5 : Int64)) hZ (5) dX7_taken_3 (tb_in 1004 (by decide +kernel) (by decide +kernel)) (by decide) ?_
    refine sX7_113 hZ dX7_taken_6 (t_X7_in (by omega) (by omega) (by omega)) (fun a6 M6 r6 h6 => ?_)
    obtain ⟨e6, h6⟩ := h6
    replace e6 := e6.symm
    subst e6
    refine f_ne (tgt := 15) hZ dX7_taken_9 rfl (by omega) (fun h9 => ?_) (fun h9 => ?_)
    · refine f_aload_n hZ dX7_taken_15 rfl ?_
      refine f_iload_n hZ dX7_taken_16 rfl ?_
      refine vX7_123 hZ dX7_taken_17 (t_X7_isWick (by omega) hn) (fun a17 M17 r17 h17 => ?_)
      obtain ⟨e17, h17⟩ := h17
      replace e17 := e17.symm
      subst e17
      refine f_ne (tgt := 26) hZ dX7_taken_20 rfl (by omega) (fun h20 => ?_) (fun h20 => ?_)
      · refine f_aload_n hZ dX7_taken_26 rfl ?_
        refine gX7_23 hZ dX7_taken_27 ?_
        refine f_iload_n hZ dX7_taken_30 rfl ?_
        refine f_iaload hZ dX7_taken_31 (by first | rfl | exact hC.t1 | exact hC.t2 | exact hC.t3 | exact hC.t4 | exact hC.t5) (by first | rfl | exact hC.l1 | exact hC.l2 | exact hC.l3 | exact hC.l4 | exact hC.l5) (by omega) (by omega) (fun r31 => ?_)
        refine f_top (a := 4) hkk ?_
        refine f_istore_n (L' := [_, _, _, _]) hZ dX7_taken_32 rfl rfl ?_
        refine f_iload_n hZ dX7_taken_33 rfl ?_
        refine f_iconst hZ dX7_taken_34 ?_
        refine f_ieq (tgt := 51) hZ dX7_taken_35 rfl (by omega) (by omega) (fun h35 => ?_) (fun h35 => ?_)
        · exfalso; omega
        · refine f_iload_n hZ dX7_taken_38 rfl ?_
          refine f_iload_n hZ dX7_taken_39 rfl ?_
          refine f_ieq (tgt := 51) hZ dX7_taken_40 rfl (by omega) (by omega) (fun h40 => ?_) (fun h40 => ?_)
          · refine f_iload_n hZ dX7_taken_51 rfl ?_
            refine f_iload_n hZ dX7_taken_52 rfl ?_
            refine f_ine (tgt := 65) hZ dX7_taken_53 rfl (by omega) (by omega) (fun h53 => ?_) (fun h53 => ?_)
            · refine f_bipush hZ dX7_taken_65 ?_
              exact f_retI hZ hR dX7_taken_67 rfl (by omega) (by refine ⟨rfl, ?_⟩; first | exact Or.inl ⟨by omega, rfl⟩ | exact Or.inr (Or.inl ⟨by omega, by omega, rfl⟩) | exact Or.inr (Or.inr (Or.inl ⟨by omega, by omega, by rw [hkk]; omega, rfl⟩)) | exact Or.inr (Or.inr (Or.inr ⟨by omega, by omega, by rw [hkk]; omega, rfl⟩)))
            · refine f_aload_n hZ dX7_taken_56 rfl ?_
              refine gX7_26 hZ dX7_taken_57 ?_
              refine f_iload_n hZ dX7_taken_60 rfl ?_
              refine f_iaload hZ dX7_taken_61 (by first | rfl | exact hC.t1 | exact hC.t2 | exact hC.t3 | exact hC.t4 | exact hC.t5) (by first | rfl | exact hC.l1 | exact hC.l2 | exact hC.l3 | exact hC.l4 | exact hC.l5) (by omega) (by omega) (fun r61 => ?_)
              refine f_goto (tgt := 67) hZ dX7_taken_62 rfl ?_
              exact f_retI hZ hR dX7_taken_67 rfl (by omega) (by refine ⟨rfl, ?_⟩; first | exact Or.inl ⟨by omega, rfl⟩ | exact Or.inr (Or.inl ⟨by omega, by omega, rfl⟩) | exact Or.inr (Or.inr (Or.inl ⟨by omega, by omega, by rw [hkk]; omega, rfl⟩)) | exact Or.inr (Or.inr (Or.inr ⟨by omega, by omega, by rw [hkk]; omega, rfl⟩)))
          · refine f_iload_n hZ dX7_taken_43 rfl ?_
            refine sX7_379 hZ dX7_taken_44 (t_X7_over (by omega)) (fun a44 M44 r44 h44 => ?_)
            obtain ⟨e44, h44⟩ := h44
            replace e44 := e44.symm
            subst e44
            have hz44 : a44 = 2 := by omega
            subst hz44
            clear h44
            refine f_istore_n (L' := [_, _, _, _]) hZ dX7_taken_47 rfl rfl ?_
            refine f_goto (tgt := 33) hZ dX7_taken_48 rfl ?_
            refine f_iload_n hZ dX7_taken_33 rfl ?_
            refine f_iconst hZ dX7_taken_34 ?_
            refine f_ieq (tgt := 51) hZ dX7_taken_35 rfl (by omega) (by omega) (fun h35 => ?_) (fun h35 => ?_)
            · exfalso; omega
            · refine f_iload_n hZ dX7_taken_38 rfl ?_
              refine f_iload_n hZ dX7_taken_39 rfl ?_
              refine f_ieq (tgt := 51) hZ dX7_taken_40 rfl (by omega) (by omega) (fun h40 => ?_) (fun h40 => ?_)
              · refine f_iload_n hZ dX7_taken_51 rfl ?_
                refine f_iload_n hZ dX7_taken_52 rfl ?_
                refine f_ine (tgt := 65) hZ dX7_taken_53 rfl (by omega) (by omega) (fun h53 => ?_) (fun h53 => ?_)
                · refine f_bipush hZ dX7_taken_65 ?_
                  exact f_retI hZ hR dX7_taken_67 rfl (by omega) (by refine ⟨rfl, ?_⟩; first | exact Or.inl ⟨by omega, rfl⟩ | exact Or.inr (Or.inl ⟨by omega, by omega, rfl⟩) | exact Or.inr (Or.inr (Or.inl ⟨by omega, by omega, by rw [hkk]; omega, rfl⟩)) | exact Or.inr (Or.inr (Or.inr ⟨by omega, by omega, by rw [hkk]; omega, rfl⟩)))
                · refine f_aload_n hZ dX7_taken_56 rfl ?_
                  refine gX7_26 hZ dX7_taken_57 ?_
                  refine f_iload_n hZ dX7_taken_60 rfl ?_
                  refine f_iaload hZ dX7_taken_61 (by first | rfl | exact hC.t1 | exact hC.t2 | exact hC.t3 | exact hC.t4 | exact hC.t5) (by first | rfl | exact hC.l1 | exact hC.l2 | exact hC.l3 | exact hC.l4 | exact hC.l5) (by omega) (by omega) (fun r61 => ?_)
                  refine f_goto (tgt := 67) hZ dX7_taken_62 rfl ?_
                  exact f_retI hZ hR dX7_taken_67 rfl (by omega) (by refine ⟨rfl, ?_⟩; first | exact Or.inl ⟨by omega, rfl⟩ | exact Or.inr (Or.inl ⟨by omega, by omega, rfl⟩) | exact Or.inr (Or.inr (Or.inl ⟨by omega, by omega, by rw [hkk]; omega, rfl⟩)) | exact Or.inr (Or.inr (Or.inr ⟨by omega, by omega, by rw [hkk]; omega, rfl⟩)))
              · refine f_iload_n hZ dX7_taken_43 rfl ?_
                refine sX7_379 hZ dX7_taken_44 (t_X7_over (by omega)) (fun a44 M44 r44 h44 => ?_)
                obtain ⟨e44, h44⟩ := h44
                replace e44 := e44.symm
                subst e44
                have hz44 : a44 = 0 := by omega
                subst hz44
                clear h44
                refine f_istore_n (L' := [_, _, _, _]) hZ dX7_taken_47 rfl rfl ?_
                refine f_goto (tgt := 33) hZ dX7_taken_48 rfl ?_
                refine f_iload_n hZ dX7_taken_33 rfl ?_
                refine f_iconst hZ dX7_taken_34 ?_
                refine f_ieq (tgt := 51) hZ dX7_taken_35 rfl (by omega) (by omega) (fun h35 => ?_) (fun h35 => ?_)
                · exfalso; omega
                · refine f_iload_n hZ dX7_taken_38 rfl ?_
                  refine f_iload_n hZ dX7_taken_39 rfl ?_
                  refine f_ieq (tgt := 51) hZ dX7_taken_40 rfl (by omega) (by omega) (fun h40 => ?_) (fun h40 => ?_)
                  · refine f_iload_n hZ dX7_taken_51 rfl ?_
                    refine f_iload_n hZ dX7_taken_52 rfl ?_
                    refine f_ine (tgt := 65) hZ dX7_taken_53 rfl (by omega) (by omega) (fun h53 => ?_) (fun h53 => ?_)
                    · refine f_bipush hZ dX7_taken_65 ?_
                      exact f_retI hZ hR dX7_taken_67 rfl (by omega) (by refine ⟨rfl, ?_⟩; first | exact Or.inl ⟨by omega, rfl⟩ | exact Or.inr (Or.inl ⟨by omega, by omega, rfl⟩) | exact Or.inr (Or.inr (Or.inl ⟨by omega, by omega, by rw [hkk]; omega, rfl⟩)) | exact Or.inr (Or.inr (Or.inr ⟨by omega, by omega, by rw [hkk]; omega, rfl⟩)))
                    · refine f_aload_n hZ dX7_taken_56 rfl ?_
                      refine gX7_26 hZ dX7_taken_57 ?_
                      refine f_iload_n hZ dX7_taken_60 rfl ?_
                      refine f_iaload hZ dX7_taken_61 (by first | rfl | exact hC.t1 | exact hC.t2 | exact hC.t3 | exact hC.t4 | exact hC.t5) (by first | rfl | exact hC.l1 | exact hC.l2 | exact hC.l3 | exact hC.l4 | exact hC.l5) (by omega) (by omega) (fun r61 => ?_)
                      refine f_goto (tgt := 67) hZ dX7_taken_62 rfl ?_
                      exact f_retI hZ hR dX7_taken_67 rfl (by omega) (by refine ⟨rfl, ?_⟩; first | exact Or.inl ⟨by omega, rfl⟩ | exact Or.inr (Or.inl ⟨by omega, by omega, rfl⟩) | exact Or.inr (Or.inr (Or.inl ⟨by omega, by omega, by rw [hkk]; omega, rfl⟩)) | exact Or.inr (Or.inr (Or.inr ⟨by omega, by omega, by rw [hkk]; omega, rfl⟩)))
                  · refine f_iload_n hZ dX7_taken_43 rfl ?_
                    refine sX7_379 hZ dX7_taken_44 (t_X7_over (by omega)) (fun a44 M44 r44 h44 => ?_)
                    obtain ⟨e44, h44⟩ := h44
                    replace e44 := e44.symm
                    subst e44
                    have hz44 : a44 = -1 := by omega
                    subst hz44
                    clear h44
                    refine f_istore_n (L' := [_, _, _, _]) hZ dX7_taken_47 rfl rfl ?_
                    refine f_goto (tgt := 33) hZ dX7_taken_48 rfl ?_
                    refine f_iload_n hZ dX7_taken_33 rfl ?_
                    refine f_iconst hZ dX7_taken_34 ?_
                    refine f_ieq (tgt := 51) hZ dX7_taken_35 rfl (by omega) (by omega) (fun h35 => ?_) (fun h35 => ?_)
                    · refine f_iload_n hZ dX7_taken_51 rfl ?_
                      refine f_iload_n hZ dX7_taken_52 rfl ?_
                      refine f_ine (tgt := 65) hZ dX7_taken_53 rfl (by omega) (by omega) (fun h53 => ?_) (fun h53 => ?_)
                      · refine f_bipush hZ dX7_taken_65 ?_
                        exact f_retI hZ hR dX7_taken_67 rfl (by omega) (by refine ⟨rfl, ?_⟩; first | exact Or.inl ⟨by omega, rfl⟩ | exact Or.inr (Or.inl ⟨by omega, by omega, rfl⟩) | exact Or.inr (Or.inr (Or.inl ⟨by omega, by omega, by rw [hkk]; omega, rfl⟩)) | exact Or.inr (Or.inr (Or.inr ⟨by omega, by omega, by rw [hkk]; omega, rfl⟩)))
                      · refine f_aload_n hZ dX7_taken_56 rfl ?_
                        refine gX7_26 hZ dX7_taken_57 ?_
                        refine f_iload_n hZ dX7_taken_60 rfl ?_
                        refine f_iaload hZ dX7_taken_61 (by first | rfl | exact hC.t1 | exact hC.t2 | exact hC.t3 | exact hC.t4 | exact hC.t5) (by first | rfl | exact hC.l1 | exact hC.l2 | exact hC.l3 | exact hC.l4 | exact hC.l5) (by omega) (by omega) (fun r61 => ?_)
                        refine f_goto (tgt := 67) hZ dX7_taken_62 rfl ?_
                        exact f_retI hZ hR dX7_taken_67 rfl (by omega) (by refine ⟨rfl, ?_⟩; first | exact Or.inl ⟨by omega, rfl⟩ | exact Or.inr (Or.inl ⟨by omega, by omega, rfl⟩) | exact Or.inr (Or.inr (Or.inl ⟨by omega, by omega, by rw [hkk]; omega, rfl⟩)) | exact Or.inr (Or.inr (Or.inr ⟨by omega, by omega, by rw [hkk]; omega, rfl⟩)))
                    · exfalso; omega
      · refine f_bipush hZ dX7_taken_23 ?_
        exact f_retI hZ hR dX7_taken_25 rfl (by omega) (by refine ⟨rfl, ?_⟩; first | exact Or.inl ⟨by omega, rfl⟩ | exact Or.inr (Or.inl ⟨by omega, by omega, rfl⟩) | exact Or.inr (Or.inr (Or.inl ⟨by omega, by omega, by rw [hkk]; omega, rfl⟩)) | exact Or.inr (Or.inr (Or.inr ⟨by omega, by omega, by rw [hkk]; omega, rfl⟩)))
    · refine f_bipush hZ dX7_taken_12 ?_
      exact f_retI hZ hR dX7_taken_14 rfl (by omega) (by refine ⟨rfl, ?_⟩; first | exact Or.inl ⟨by omega, rfl⟩ | exact Or.inr (Or.inl ⟨by omega, by omega, rfl⟩) | exact Or.inr (Or.inr (Or.inl ⟨by omega, by omega, by rw [hkk]; omega, rfl⟩)) | exact Or.inr (Or.inr (Or.inr ⟨by omega, by omega, by rw [hkk]; omega, rfl⟩)))
  · refine f_iload_n hZ dX7_taken_0 rfl ?_
    refine f_i2l hZ dX7_taken_1 (by omega) ?_
    refine f_lconst0 hZ dX7_taken_2 ?_
    refine f_ldc2 (v := (5 : Int64)) hZ (5) dX7_taken_3 (tb_in 1004 (by decide +kernel) (by decide +kernel)) (by decide) ?_
    refine sX7_113 hZ dX7_taken_6 (t_X7_in (by omega) (by omega) (by omega)) (fun a6 M6 r6 h6 => ?_)
    obtain ⟨e6, h6⟩ := h6
    replace e6 := e6.symm
    subst e6
    refine f_ne (tgt := 15) hZ dX7_taken_9 rfl (by omega) (fun h9 => ?_) (fun h9 => ?_)
    · refine f_aload_n hZ dX7_taken_15 rfl ?_
      refine f_iload_n hZ dX7_taken_16 rfl ?_
      refine vX7_123 hZ dX7_taken_17 (t_X7_isWick (by omega) hn) (fun a17 M17 r17 h17 => ?_)
      obtain ⟨e17, h17⟩ := h17
      replace e17 := e17.symm
      subst e17
      refine f_ne (tgt := 26) hZ dX7_taken_20 rfl (by omega) (fun h20 => ?_) (fun h20 => ?_)
      · refine f_aload_n hZ dX7_taken_26 rfl ?_
        refine gX7_23 hZ dX7_taken_27 ?_
        refine f_iload_n hZ dX7_taken_30 rfl ?_
        refine f_iaload hZ dX7_taken_31 (by first | rfl | exact hC.t1 | exact hC.t2 | exact hC.t3 | exact hC.t4 | exact hC.t5) (by first | rfl | exact hC.l1 | exact hC.l2 | exact hC.l3 | exact hC.l4 | exact hC.l5) (by omega) (by omega) (fun r31 => ?_)
        refine f_top (a := 5) hkk ?_
        refine f_istore_n (L' := [_, _, _, _]) hZ dX7_taken_32 rfl rfl ?_
        refine f_iload_n hZ dX7_taken_33 rfl ?_
        refine f_iconst hZ dX7_taken_34 ?_
        refine f_ieq (tgt := 51) hZ dX7_taken_35 rfl (by omega) (by omega) (fun h35 => ?_) (fun h35 => ?_)
        · exfalso; omega
        · refine f_iload_n hZ dX7_taken_38 rfl ?_
          refine f_iload_n hZ dX7_taken_39 rfl ?_
          refine f_ieq (tgt := 51) hZ dX7_taken_40 rfl (by omega) (by omega) (fun h40 => ?_) (fun h40 => ?_)
          · refine f_iload_n hZ dX7_taken_51 rfl ?_
            refine f_iload_n hZ dX7_taken_52 rfl ?_
            refine f_ine (tgt := 65) hZ dX7_taken_53 rfl (by omega) (by omega) (fun h53 => ?_) (fun h53 => ?_)
            · refine f_bipush hZ dX7_taken_65 ?_
              exact f_retI hZ hR dX7_taken_67 rfl (by omega) (by refine ⟨rfl, ?_⟩; first | exact Or.inl ⟨by omega, rfl⟩ | exact Or.inr (Or.inl ⟨by omega, by omega, rfl⟩) | exact Or.inr (Or.inr (Or.inl ⟨by omega, by omega, by rw [hkk]; omega, rfl⟩)) | exact Or.inr (Or.inr (Or.inr ⟨by omega, by omega, by rw [hkk]; omega, rfl⟩)))
            · refine f_aload_n hZ dX7_taken_56 rfl ?_
              refine gX7_26 hZ dX7_taken_57 ?_
              refine f_iload_n hZ dX7_taken_60 rfl ?_
              refine f_iaload hZ dX7_taken_61 (by first | rfl | exact hC.t1 | exact hC.t2 | exact hC.t3 | exact hC.t4 | exact hC.t5) (by first | rfl | exact hC.l1 | exact hC.l2 | exact hC.l3 | exact hC.l4 | exact hC.l5) (by omega) (by omega) (fun r61 => ?_)
              refine f_goto (tgt := 67) hZ dX7_taken_62 rfl ?_
              exact f_retI hZ hR dX7_taken_67 rfl (by omega) (by refine ⟨rfl, ?_⟩; first | exact Or.inl ⟨by omega, rfl⟩ | exact Or.inr (Or.inl ⟨by omega, by omega, rfl⟩) | exact Or.inr (Or.inr (Or.inl ⟨by omega, by omega, by rw [hkk]; omega, rfl⟩)) | exact Or.inr (Or.inr (Or.inr ⟨by omega, by omega, by rw [hkk]; omega, rfl⟩)))
          · refine f_iload_n hZ dX7_taken_43 rfl ?_
            refine sX7_379 hZ dX7_taken_44 (t_X7_over (by omega)) (fun a44 M44 r44 h44 => ?_)
            obtain ⟨e44, h44⟩ := h44
            replace e44 := e44.symm
            subst e44
            have hz44 : a44 = 1 := by omega
            subst hz44
            clear h44
            refine f_istore_n (L' := [_, _, _, _]) hZ dX7_taken_47 rfl rfl ?_
            refine f_goto (tgt := 33) hZ dX7_taken_48 rfl ?_
            refine f_iload_n hZ dX7_taken_33 rfl ?_
            refine f_iconst hZ dX7_taken_34 ?_
            refine f_ieq (tgt := 51) hZ dX7_taken_35 rfl (by omega) (by omega) (fun h35 => ?_) (fun h35 => ?_)
            · exfalso; omega
            · refine f_iload_n hZ dX7_taken_38 rfl ?_
              refine f_iload_n hZ dX7_taken_39 rfl ?_
              refine f_ieq (tgt := 51) hZ dX7_taken_40 rfl (by omega) (by omega) (fun h40 => ?_) (fun h40 => ?_)
              · refine f_iload_n hZ dX7_taken_51 rfl ?_
                refine f_iload_n hZ dX7_taken_52 rfl ?_
                refine f_ine (tgt := 65) hZ dX7_taken_53 rfl (by omega) (by omega) (fun h53 => ?_) (fun h53 => ?_)
                · refine f_bipush hZ dX7_taken_65 ?_
                  exact f_retI hZ hR dX7_taken_67 rfl (by omega) (by refine ⟨rfl, ?_⟩; first | exact Or.inl ⟨by omega, rfl⟩ | exact Or.inr (Or.inl ⟨by omega, by omega, rfl⟩) | exact Or.inr (Or.inr (Or.inl ⟨by omega, by omega, by rw [hkk]; omega, rfl⟩)) | exact Or.inr (Or.inr (Or.inr ⟨by omega, by omega, by rw [hkk]; omega, rfl⟩)))
                · refine f_aload_n hZ dX7_taken_56 rfl ?_
                  refine gX7_26 hZ dX7_taken_57 ?_
                  refine f_iload_n hZ dX7_taken_60 rfl ?_
                  refine f_iaload hZ dX7_taken_61 (by first | rfl | exact hC.t1 | exact hC.t2 | exact hC.t3 | exact hC.t4 | exact hC.t5) (by first | rfl | exact hC.l1 | exact hC.l2 | exact hC.l3 | exact hC.l4 | exact hC.l5) (by omega) (by omega) (fun r61 => ?_)
                  refine f_goto (tgt := 67) hZ dX7_taken_62 rfl ?_
                  exact f_retI hZ hR dX7_taken_67 rfl (by omega) (by refine ⟨rfl, ?_⟩; first | exact Or.inl ⟨by omega, rfl⟩ | exact Or.inr (Or.inl ⟨by omega, by omega, rfl⟩) | exact Or.inr (Or.inr (Or.inl ⟨by omega, by omega, by rw [hkk]; omega, rfl⟩)) | exact Or.inr (Or.inr (Or.inr ⟨by omega, by omega, by rw [hkk]; omega, rfl⟩)))
              · refine f_iload_n hZ dX7_taken_43 rfl ?_
                refine sX7_379 hZ dX7_taken_44 (t_X7_over (by omega)) (fun a44 M44 r44 h44 => ?_)
                obtain ⟨e44, h44⟩ := h44
                replace e44 := e44.symm
                subst e44
                have hz44 : a44 = 0 := by omega
                subst hz44
                clear h44
                refine f_istore_n (L' := [_, _, _, _]) hZ dX7_taken_47 rfl rfl ?_
                refine f_goto (tgt := 33) hZ dX7_taken_48 rfl ?_
                refine f_iload_n hZ dX7_taken_33 rfl ?_
                refine f_iconst hZ dX7_taken_34 ?_
                refine f_ieq (tgt := 51) hZ dX7_taken_35 rfl (by omega) (by omega) (fun h35 => ?_) (fun h35 => ?_)
                · exfalso; omega
                · refine f_iload_n hZ dX7_taken_38 rfl ?_
                  refine f_iload_n hZ dX7_taken_39 rfl ?_
                  refine f_ieq (tgt := 51) hZ dX7_taken_40 rfl (by omega) (by omega) (fun h40 => ?_) (fun h40 => ?_)
                  · refine f_iload_n hZ dX7_taken_51 rfl ?_
                    refine f_iload_n hZ dX7_taken_52 rfl ?_
                    refine f_ine (tgt := 65) hZ dX7_taken_53 rfl (by omega) (by omega) (fun h53 => ?_) (fun h53 => ?_)
                    · refine f_bipush hZ dX7_taken_65 ?_
                      exact f_retI hZ hR dX7_taken_67 rfl (by omega) (by refine ⟨rfl, ?_⟩; first | exact Or.inl ⟨by omega, rfl⟩ | exact Or.inr (Or.inl ⟨by omega, by omega, rfl⟩) | exact Or.inr (Or.inr (Or.inl ⟨by omega, by omega, by rw [hkk]; omega, rfl⟩)) | exact Or.inr (Or.inr (Or.inr ⟨by omega, by omega, by rw [hkk]; omega, rfl⟩)))
                    · refine f_aload_n hZ dX7_taken_56 rfl ?_
                      refine gX7_26 hZ dX7_taken_57 ?_
                      refine f_iload_n hZ dX7_taken_60 rfl ?_
                      refine f_iaload hZ dX7_taken_61 (by first | rfl | exact hC.t1 | exact hC.t2 | exact hC.t3 | exact hC.t4 | exact hC.t5) (by first | rfl | exact hC.l1 | exact hC.l2 | exact hC.l3 | exact hC.l4 | exact hC.l5) (by omega) (by omega) (fun r61 => ?_)
                      refine f_goto (tgt := 67) hZ dX7_taken_62 rfl ?_
                      exact f_retI hZ hR dX7_taken_67 rfl (by omega) (by refine ⟨rfl, ?_⟩; first | exact Or.inl ⟨by omega, rfl⟩ | exact Or.inr (Or.inl ⟨by omega, by omega, rfl⟩) | exact Or.inr (Or.inr (Or.inl ⟨by omega, by omega, by rw [hkk]; omega, rfl⟩)) | exact Or.inr (Or.inr (Or.inr ⟨by omega, by omega, by rw [hkk]; omega, rfl⟩)))
                  · refine f_iload_n hZ dX7_taken_43 rfl ?_
                    refine sX7_379 hZ dX7_taken_44 (t_X7_over (by omega)) (fun a44 M44 r44 h44 => ?_)
                    obtain ⟨e44, h44⟩ := h44
                    replace e44 := e44.symm
                    subst e44
                    have hz44 : a44 = -1 := by omega
                    subst hz44
                    clear h44
                    refine f_istore_n (L' := [_, _, _, _]) hZ dX7_taken_47 rfl rfl ?_
                    refine f_goto (tgt := 33) hZ dX7_taken_48 rfl ?_
                    refine f_iload_n hZ dX7_taken_33 rfl ?_
                    refine f_iconst hZ dX7_taken_34 ?_
                    refine f_ieq (tgt := 51) hZ dX7_taken_35 rfl (by omega) (by omega) (fun h35 => ?_) (fun h35 => ?_)
                    · refine f_iload_n hZ dX7_taken_51 rfl ?_
                      refine f_iload_n hZ dX7_taken_52 rfl ?_
                      refine f_ine (tgt := 65) hZ dX7_taken_53 rfl (by omega) (by omega) (fun h53 => ?_) (fun h53 => ?_)
                      · refine f_bipush hZ dX7_taken_65 ?_
                        exact f_retI hZ hR dX7_taken_67 rfl (by omega) (by refine ⟨rfl, ?_⟩; first | exact Or.inl ⟨by omega, rfl⟩ | exact Or.inr (Or.inl ⟨by omega, by omega, rfl⟩) | exact Or.inr (Or.inr (Or.inl ⟨by omega, by omega, by rw [hkk]; omega, rfl⟩)) | exact Or.inr (Or.inr (Or.inr ⟨by omega, by omega, by rw [hkk]; omega, rfl⟩)))
                      · refine f_aload_n hZ dX7_taken_56 rfl ?_
                        refine gX7_26 hZ dX7_taken_57 ?_
                        refine f_iload_n hZ dX7_taken_60 rfl ?_
                        refine f_iaload hZ dX7_taken_61 (by first | rfl | exact hC.t1 | exact hC.t2 | exact hC.t3 | exact hC.t4 | exact hC.t5) (by first | rfl | exact hC.l1 | exact hC.l2 | exact hC.l3 | exact hC.l4 | exact hC.l5) (by omega) (by omega) (fun r61 => ?_)
                        refine f_goto (tgt := 67) hZ dX7_taken_62 rfl ?_
                        exact f_retI hZ hR dX7_taken_67 rfl (by omega) (by refine ⟨rfl, ?_⟩; first | exact Or.inl ⟨by omega, rfl⟩ | exact Or.inr (Or.inl ⟨by omega, by omega, rfl⟩) | exact Or.inr (Or.inr (Or.inl ⟨by omega, by omega, by rw [hkk]; omega, rfl⟩)) | exact Or.inr (Or.inr (Or.inr ⟨by omega, by omega, by rw [hkk]; omega, rfl⟩)))
                    · exfalso; omega
      · refine f_bipush hZ dX7_taken_23 ?_
        exact f_retI hZ hR dX7_taken_25 rfl (by omega) (by refine ⟨rfl, ?_⟩; first | exact Or.inl ⟨by omega, rfl⟩ | exact Or.inr (Or.inl ⟨by omega, by omega, rfl⟩) | exact Or.inr (Or.inr (Or.inl ⟨by omega, by omega, by rw [hkk]; omega, rfl⟩)) | exact Or.inr (Or.inr (Or.inr ⟨by omega, by omega, by rw [hkk]; omega, rfl⟩)))
    · refine f_bipush hZ dX7_taken_12 ?_
      exact f_retI hZ hR dX7_taken_14 rfl (by omega) (by refine ⟨rfl, ?_⟩; first | exact Or.inl ⟨by omega, rfl⟩ | exact Or.inr (Or.inl ⟨by omega, by omega, rfl⟩) | exact Or.inr (Or.inr (Or.inl ⟨by omega, by omega, by rw [hkk]; omega, rfl⟩)) | exact Or.inr (Or.inr (Or.inr ⟨by omega, by omega, by rw [hkk]; omega, rfl⟩)))

set_option maxRecDepth 20000 in
set_option maxHeartbeats 4000000 in
theorem t_X7_isSheet {X : fX} {M : fM} {d : Nat} {s : Int} (hs : rg s) : fC X (d + 1) mX7_isSheet [.int (iv s)] M (QI fun r M' => M' = M ∧ bz r (0 ≤ s ∧ s < 4)) := by
  refine fC.of (L := [_]) (by decide +kernel) rfl (Nat.le_of_ble_eq_true rfl) (fun Z hZ hR => ?_)
  refine f_iload_n hZ dX7_isSheet_0 rfl ?_
  refine f_i2l hZ dX7_isSheet_1 (by omega) ?_
  refine f_lconst0 hZ dX7_isSheet_2 ?_
  refine f_ldc2 (v := (3 : Int64)) hZ (3) dX7_isSheet_3 (tb_in 1225 (by decide +kernel) (by decide +kernel)) (by decide) ?_
  refine sX7_113 hZ dX7_isSheet_6 (t_X7_in (by omega) (by omega) (by omega)) (fun a6 M6 r6 h6 => ?_)
  obtain ⟨e6, h6⟩ := h6
  replace e6 := e6.symm
  subst e6
  exact f_retZ hZ hR dX7_isSheet_9 rfl (by omega) (by exact ⟨rfl, by omega⟩)

def zeroI (M : fM) (a k : Int) : fM := fun q i => if q = 87 ∧ a ≤ i ∧ i < a + k then 0 else M q i
theorem zeroI_0 {M : fM} {a k : Int} (h : k ≤ 0) : zeroI M a k = M := by funext q i; unfold zeroI; rw [if_neg (by omega)]
theorem zeroI_step {M : fM} {a k : Int} (h : 0 ≤ k) : up (zeroI M a k) 87 (a + k) 0 = zeroI M a (k + 1) := by
  funext q i
  unfold up zeroI
  by_cases h1 : q = 87 ∧ i = a + k
  · rw [if_pos h1, if_pos (by omega)]
  · rw [if_neg h1]
    by_cases h2 : q = 87 ∧ a ≤ i ∧ i < a + k
    · rw [if_pos h2, if_pos (show q = 87 ∧ a ≤ i ∧ i < a + (k + 1) by omega)]
    · rw [if_neg h2, if_neg (show ¬ (q = 87 ∧ a ≤ i ∧ i < a + (k + 1)) by omega)]
def shtM (M : fM) (s t n : Int) : fM := zeroI (up (up (up M 84 s (if 0 ≤ t then 1 else 0)) 85 s t) 86 s n) (40 * s) (if 0 ≤ t then n else 0)
def shtB (M : fM) (s t n b : Int) : fM := up (up (up M 84 s b) 85 s t) 86 s n
set_option maxRecDepth 20000 in
set_option maxHeartbeats 4000000 in
theorem sht_end {X : fX} {M : fM} {d : Nat} {Z : fZ} {s t n : Int} (hs4 : 0 ≤ s ∧ s < 4) (ht : t = -1) (hn : rg n) (hZ : Cx X mX7_sheet (d + 2) Z) (hR : Rt X mX7_sheet (QI fun r M' => (sheetBad s t n ∧ r = -2 ∧ M' = M) ∨ (¬ sheetBad s t n ∧ (t ≠ -1 ∧ n < 0) ∧ r = -14 ∧ M' = M) ∨ (¬ sheetBad s t n ∧ ¬ (t ≠ -1 ∧ n < 0) ∧ r = 1 ∧ M' = shtM M s t n)) Z) : fG X mX7_sheet Z 77 [.ref (xa X 59), .int (iv s), .int (iv t), .int (iv n), .int (iv 0)] [] (up (up (up M 84 s 0) 85 s t) 86 s n) := by
  refine f_iload hZ dX7_sheet_77 rfl ?_
  refine f_iload_n hZ dX7_sheet_79 rfl ?_
  refine f_ige (tgt := 106) hZ dX7_sheet_80 rfl (by omega) (by omega) (fun h80 => ?_) (fun h80 => ?_)
  · refine f_iconst hZ dX7_sheet_106 ?_
    exact f_retI hZ hR dX7_sheet_107 rfl (by omega) (by refine Or.inr (Or.inr ⟨by omega, by omega, rfl, ?_⟩); unfold shtM; rw [if_neg (by omega), if_neg (by omega), zeroI_0 (by omega)])
  · refine f_iload_n hZ dX7_sheet_83 rfl ?_
    refine f_lt (tgt := 106) hZ dX7_sheet_84 rfl (by omega) (fun h84 => ?_) (fun h84 => ?_)
    · refine f_iconst hZ dX7_sheet_106 ?_
      exact f_retI hZ hR dX7_sheet_107 rfl (by omega) (by refine Or.inr (Or.inr ⟨by omega, by omega, rfl, ?_⟩); unfold shtM; rw [if_neg (by omega), if_neg (by omega), zeroI_0 (by omega)])
    · exfalso; omega

set_option maxRecDepth 20000 in
set_option maxHeartbeats 4000000 in
theorem t_X7_sheet {X : fX} {M : fM} {d : Nat} {s t n : Int} (hs : rg s) (ht : rg t) (hn : rg n) : fC X (d + 2) mX7_sheet [.ref (xa X 59), .int (iv s), .int (iv t), .int (iv n)] M (QI fun r M' => (sheetBad s t n ∧ r = -2 ∧ M' = M) ∨ (¬ sheetBad s t n ∧ (t ≠ -1 ∧ n < 0) ∧ r = -14 ∧ M' = M) ∨ (¬ sheetBad s t n ∧ ¬ (t ≠ -1 ∧ n < 0) ∧ r = 1 ∧ M' = shtM M s t n)) := by
  refine fC.of (L := [_, _, _, _, _]) (by decide +kernel) rfl (Nat.le_of_ble_eq_true rfl) (fun Z hZ hR => ?_)
  have loop : ∀ (m : Nat) (w : Int), 0 ≤ w → w + m = n → (0 ≤ s ∧ s < 4) → (0 ≤ t ∧ t ≤ 2) → n ≤ 40 → fG X mX7_sheet Z 77 [.ref (xa X 59), .int (iv s), .int (iv t), .int (iv n), .int (iv w)] [] (zeroI (shtB M s t n 1) (40 * s) w) := by
    intro m
    induction m with
    | zero =>
      intro w h0 hw hs4 ht2 hn40
      refine f_iload hZ dX7_sheet_77 rfl ?_
      refine f_iload_n hZ dX7_sheet_79 rfl ?_
      refine f_ige (tgt := 106) hZ dX7_sheet_80 rfl (by omega) (by omega) (fun h80 => ?_) (fun h80 => ?_)
      · refine f_iconst hZ dX7_sheet_106 ?_
        exact f_retI hZ hR dX7_sheet_107 rfl (by omega) (by refine Or.inr (Or.inr ⟨by omega, by omega, rfl, ?_⟩); unfold shtM shtB; rw [if_pos ht2.1, if_pos ht2.1, show w = n by omega])
      · exfalso; omega
    | succ m ih =>
      intro w h0 hw hs4 ht2 hn40
      refine f_iload hZ dX7_sheet_77 rfl ?_
      refine f_iload_n hZ dX7_sheet_79 rfl ?_
      refine f_ige (tgt := 106) hZ dX7_sheet_80 rfl (by omega) (by omega) (fun h80 => ?_) (fun h80 => ?_)
      · exfalso; omega
      · refine f_iload_n hZ dX7_sheet_83 rfl ?_
        refine f_lt (tgt := 106) hZ dX7_sheet_84 rfl (by omega) (fun h84 => ?_) (fun h84 => ?_)
        · exfalso; omega
        · refine f_aload_n hZ dX7_sheet_87 rfl ?_
          refine gX7_100 hZ dX7_sheet_88 ?_
          refine f_bipush hZ dX7_sheet_91 ?_
          refine f_iload_n hZ dX7_sheet_93 rfl ?_
          refine f_imul hZ dX7_sheet_94 ?_
          refine f_iload hZ dX7_sheet_95 rfl ?_
          refine f_iadd hZ dX7_sheet_97 ?_
          refine f_iconst hZ dX7_sheet_98 ?_
          refine f_iastore hZ dX7_sheet_99 (by first | rfl | exact hC.t1 | exact hC.t2 | exact hC.t3 | exact hC.t4 | exact hC.t5) (by first | rfl | exact hC.l1 | exact hC.l2 | exact hC.l3 | exact hC.l4 | exact hC.l5) (by omega) (by omega) (by omega) ?_
          refine f_iinc (L' := [_, _, _, _, _]) hZ dX7_sheet_100 rfl rfl ?_
          refine f_goto (tgt := 77) hZ dX7_sheet_103 rfl ?_
          have hh := ih (w + 1) (by omega) (by omega) hs4 ht2 hn40
          rw [← zeroI_step h0] at hh
          exact hh
  refine f_iload_n hZ dX7_sheet_0 rfl ?_
  refine sX7_346 hZ dX7_sheet_1 (t_X7_isSheet (by omega)) (fun a1 M1 r1 h1 => ?_)
  obtain ⟨e1, h1⟩ := h1
  replace e1 := e1.symm
  subst e1
  refine f_eq (tgt := 31) hZ dX7_sheet_4 rfl (by omega) (fun h4 => ?_) (fun h4 => ?_)
  · refine f_bipush hZ dX7_sheet_31 ?_
    exact f_retI hZ hR dX7_sheet_33 rfl (by omega) (by first | exact Or.inl ⟨by omega, rfl, rfl⟩ | exact Or.inr (Or.inl ⟨by omega, by omega, rfl, rfl⟩) | (refine Or.inr (Or.inr ⟨by omega, by omega, rfl, ?_⟩); unfold shtM; rw [if_neg (by omega), if_neg (by omega), zeroI_0 (by omega)]))
  · refine f_iload_n hZ dX7_sheet_7 rfl ?_
    refine f_i2l hZ dX7_sheet_8 (by omega) ?_
    refine f_ldc2 (v := (-1 : Int64)) hZ (-1) dX7_sheet_9 (tb_in 1262 (by decide +kernel) (by decide +kernel)) (by decide) ?_
    refine f_ldc2 (v := (2 : Int64)) hZ (2) dX7_sheet_12 (tb_in 1018 (by decide +kernel) (by decide +kernel)) (by decide) ?_
    refine sX7_113 hZ dX7_sheet_15 (t_X7_in (by omega) (by omega) (by omega)) (fun a15 M15 r15 h15 => ?_)
    obtain ⟨e15, h15⟩ := h15
    replace e15 := e15.symm
    subst e15
    refine f_eq (tgt := 31) hZ dX7_sheet_18 rfl (by omega) (fun h18 => ?_) (fun h18 => ?_)
    · refine f_bipush hZ dX7_sheet_31 ?_
      exact f_retI hZ hR dX7_sheet_33 rfl (by omega) (by first | exact Or.inl ⟨by omega, rfl, rfl⟩ | exact Or.inr (Or.inl ⟨by omega, by omega, rfl, rfl⟩) | (refine Or.inr (Or.inr ⟨by omega, by omega, rfl, ?_⟩); unfold shtM; rw [if_neg (by omega), if_neg (by omega), zeroI_0 (by omega)]))
    · refine f_iload_n hZ dX7_sheet_21 rfl ?_
      refine f_lt (tgt := 34) hZ dX7_sheet_22 rfl (by omega) (fun h22 => ?_) (fun h22 => ?_)
      · refine f_iload_n hZ dX7_sheet_34 rfl ?_
        refine f_lt (tgt := 45) hZ dX7_sheet_35 rfl (by omega) (fun h35 => ?_) (fun h35 => ?_)
        · refine f_aload_n hZ dX7_sheet_45 rfl ?_
          refine gX7_90 hZ dX7_sheet_46 ?_
          refine f_iload_n hZ dX7_sheet_49 rfl ?_
          refine f_iload_n hZ dX7_sheet_50 rfl ?_
          refine f_lt (tgt := 58) hZ dX7_sheet_51 rfl (by omega) (fun h51 => ?_) (fun h51 => ?_)
          · refine f_iconst hZ dX7_sheet_58 ?_
            refine f_bastore hZ dX7_sheet_59 (by first | rfl | exact hC.t1 | exact hC.t2 | exact hC.t3 | exact hC.t4 | exact hC.t5) (by first | rfl | exact hC.l1 | exact hC.l2 | exact hC.l3 | exact hC.l4 | exact hC.l5) (by omega) (by omega) (by omega) ?_
            refine f_aload_n hZ dX7_sheet_60 rfl ?_
            refine gX7_94 hZ dX7_sheet_61 ?_
            refine f_iload_n hZ dX7_sheet_64 rfl ?_
            refine f_iload_n hZ dX7_sheet_65 rfl ?_
            refine f_iastore hZ dX7_sheet_66 (by first | rfl | exact hC.t1 | exact hC.t2 | exact hC.t3 | exact hC.t4 | exact hC.t5) (by first | rfl | exact hC.l1 | exact hC.l2 | exact hC.l3 | exact hC.l4 | exact hC.l5) (by omega) (by omega) (by omega) ?_
            refine f_aload_n hZ dX7_sheet_67 rfl ?_
            refine gX7_97 hZ dX7_sheet_68 ?_
            refine f_iload_n hZ dX7_sheet_71 rfl ?_
            refine f_iload_n hZ dX7_sheet_72 rfl ?_
            refine f_iastore hZ dX7_sheet_73 (by first | rfl | exact hC.t1 | exact hC.t2 | exact hC.t3 | exact hC.t4 | exact hC.t5) (by first | rfl | exact hC.l1 | exact hC.l2 | exact hC.l3 | exact hC.l4 | exact hC.l5) (by omega) (by omega) (by omega) ?_
            refine f_iconst hZ dX7_sheet_74 ?_
            refine f_istore (L' := [_, _, _, _, _]) hZ dX7_sheet_75 rfl rfl ?_
            first | (have hh := loop n.toNat 0 (by omega) (by omega) (by omega) (by omega) (by omega); rw [zeroI_0 (by omega)] at hh; exact hh) | exact sht_end (by omega) (by omega) hn hZ hR
          · refine f_iconst hZ dX7_sheet_54 ?_
            refine f_goto (tgt := 59) hZ dX7_sheet_55 rfl ?_
            refine f_bastore hZ dX7_sheet_59 (by first | rfl | exact hC.t1 | exact hC.t2 | exact hC.t3 | exact hC.t4 | exact hC.t5) (by first | rfl | exact hC.l1 | exact hC.l2 | exact hC.l3 | exact hC.l4 | exact hC.l5) (by omega) (by omega) (by omega) ?_
            refine f_aload_n hZ dX7_sheet_60 rfl ?_
            refine gX7_94 hZ dX7_sheet_61 ?_
            refine f_iload_n hZ dX7_sheet_64 rfl ?_
            refine f_iload_n hZ dX7_sheet_65 rfl ?_
            refine f_iastore hZ dX7_sheet_66 (by first | rfl | exact hC.t1 | exact hC.t2 | exact hC.t3 | exact hC.t4 | exact hC.t5) (by first | rfl | exact hC.l1 | exact hC.l2 | exact hC.l3 | exact hC.l4 | exact hC.l5) (by omega) (by omega) (by omega) ?_
            refine f_aload_n hZ dX7_sheet_67 rfl ?_
            refine gX7_97 hZ dX7_sheet_68 ?_
            refine f_iload_n hZ dX7_sheet_71 rfl ?_
            refine f_iload_n hZ dX7_sheet_72 rfl ?_
            refine f_iastore hZ dX7_sheet_73 (by first | rfl | exact hC.t1 | exact hC.t2 | exact hC.t3 | exact hC.t4 | exact hC.t5) (by first | rfl | exact hC.l1 | exact hC.l2 | exact hC.l3 | exact hC.l4 | exact hC.l5) (by omega) (by omega) (by omega) ?_
            refine f_iconst hZ dX7_sheet_74 ?_
            refine f_istore (L' := [_, _, _, _, _]) hZ dX7_sheet_75 rfl rfl ?_
            first | (have hh := loop n.toNat 0 (by omega) (by omega) (by omega) (by omega) (by omega); rw [zeroI_0 (by omega)] at hh; exact hh) | exact sht_end (by omega) (by omega) hn hZ hR
        · refine f_iload_n hZ dX7_sheet_38 rfl ?_
          refine f_ge (tgt := 45) hZ dX7_sheet_39 rfl (by omega) (fun h39 => ?_) (fun h39 => ?_)
          · refine f_aload_n hZ dX7_sheet_45 rfl ?_
            refine gX7_90 hZ dX7_sheet_46 ?_
            refine f_iload_n hZ dX7_sheet_49 rfl ?_
            refine f_iload_n hZ dX7_sheet_50 rfl ?_
            refine f_lt (tgt := 58) hZ dX7_sheet_51 rfl (by omega) (fun h51 => ?_) (fun h51 => ?_)
            · refine f_iconst hZ dX7_sheet_58 ?_
              refine f_bastore hZ dX7_sheet_59 (by first | rfl | exact hC.t1 | exact hC.t2 | exact hC.t3 | exact hC.t4 | exact hC.t5) (by first | rfl | exact hC.l1 | exact hC.l2 | exact hC.l3 | exact hC.l4 | exact hC.l5) (by omega) (by omega) (by omega) ?_
              refine f_aload_n hZ dX7_sheet_60 rfl ?_
              refine gX7_94 hZ dX7_sheet_61 ?_
              refine f_iload_n hZ dX7_sheet_64 rfl ?_
              refine f_iload_n hZ dX7_sheet_65 rfl ?_
              refine f_iastore hZ dX7_sheet_66 (by first | rfl | exact hC.t1 | exact hC.t2 | exact hC.t3 | exact hC.t4 | exact hC.t5) (by first | rfl | exact hC.l1 | exact hC.l2 | exact hC.l3 | exact hC.l4 | exact hC.l5) (by omega) (by omega) (by omega) ?_
              refine f_aload_n hZ dX7_sheet_67 rfl ?_
              refine gX7_97 hZ dX7_sheet_68 ?_
              refine f_iload_n hZ dX7_sheet_71 rfl ?_
              refine f_iload_n hZ dX7_sheet_72 rfl ?_
              refine f_iastore hZ dX7_sheet_73 (by first | rfl | exact hC.t1 | exact hC.t2 | exact hC.t3 | exact hC.t4 | exact hC.t5) (by first | rfl | exact hC.l1 | exact hC.l2 | exact hC.l3 | exact hC.l4 | exact hC.l5) (by omega) (by omega) (by omega) ?_
              refine f_iconst hZ dX7_sheet_74 ?_
              refine f_istore (L' := [_, _, _, _, _]) hZ dX7_sheet_75 rfl rfl ?_
              first | (have hh := loop n.toNat 0 (by omega) (by omega) (by omega) (by omega) (by omega); rw [zeroI_0 (by omega)] at hh; exact hh) | exact sht_end (by omega) (by omega) hn hZ hR
            · refine f_iconst hZ dX7_sheet_54 ?_
              refine f_goto (tgt := 59) hZ dX7_sheet_55 rfl ?_
              refine f_bastore hZ dX7_sheet_59 (by first | rfl | exact hC.t1 | exact hC.t2 | exact hC.t3 | exact hC.t4 | exact hC.t5) (by first | rfl | exact hC.l1 | exact hC.l2 | exact hC.l3 | exact hC.l4 | exact hC.l5) (by omega) (by omega) (by omega) ?_
              refine f_aload_n hZ dX7_sheet_60 rfl ?_
              refine gX7_94 hZ dX7_sheet_61 ?_
              refine f_iload_n hZ dX7_sheet_64 rfl ?_
              refine f_iload_n hZ dX7_sheet_65 rfl ?_
              refine f_iastore hZ dX7_sheet_66 (by first | rfl | exact hC.t1 | exact hC.t2 | exact hC.t3 | exact hC.t4 | exact hC.t5) (by first | rfl | exact hC.l1 | exact hC.l2 | exact hC.l3 | exact hC.l4 | exact hC.l5) (by omega) (by omega) (by omega) ?_
              refine f_aload_n hZ dX7_sheet_67 rfl ?_
              refine gX7_97 hZ dX7_sheet_68 ?_
              refine f_iload_n hZ dX7_sheet_71 rfl ?_
              refine f_iload_n hZ dX7_sheet_72 rfl ?_
              refine f_iastore hZ dX7_sheet_73 (by first | rfl | exact hC.t1 | exact hC.t2 | exact hC.t3 | exact hC.t4 | exact hC.t5) (by first | rfl | exact hC.l1 | exact hC.l2 | exact hC.l3 | exact hC.l4 | exact hC.l5) (by omega) (by omega) (by omega) ?_
              refine f_iconst hZ dX7_sheet_74 ?_
              refine f_istore (L' := [_, _, _, _, _]) hZ dX7_sheet_75 rfl rfl ?_
              first | (have hh := loop n.toNat 0 (by omega) (by omega) (by omega) (by omega) (by omega); rw [zeroI_0 (by omega)] at hh; exact hh) | exact sht_end (by omega) (by omega) hn hZ hR
          · refine f_bipush hZ dX7_sheet_42 ?_
            exact f_retI hZ hR dX7_sheet_44 rfl (by omega) (by first | exact Or.inl ⟨by omega, rfl, rfl⟩ | exact Or.inr (Or.inl ⟨by omega, by omega, rfl, rfl⟩) | (refine Or.inr (Or.inr ⟨by omega, by omega, rfl, ?_⟩); unfold shtM; rw [if_neg (by omega), if_neg (by omega), zeroI_0 (by omega)]))
      · refine f_iload_n hZ dX7_sheet_25 rfl ?_
        refine f_bipush hZ dX7_sheet_26 ?_
        refine f_ile (tgt := 34) hZ dX7_sheet_28 rfl (by omega) (by omega) (fun h28 => ?_) (fun h28 => ?_)
        · refine f_iload_n hZ dX7_sheet_34 rfl ?_
          refine f_lt (tgt := 45) hZ dX7_sheet_35 rfl (by omega) (fun h35 => ?_) (fun h35 => ?_)
          · refine f_aload_n hZ dX7_sheet_45 rfl ?_
            refine gX7_90 hZ dX7_sheet_46 ?_
            refine f_iload_n hZ dX7_sheet_49 rfl ?_
            refine f_iload_n hZ dX7_sheet_50 rfl ?_
            refine f_lt (tgt := 58) hZ dX7_sheet_51 rfl (by omega) (fun h51 => ?_) (fun h51 => ?_)
            · refine f_iconst hZ dX7_sheet_58 ?_
              refine f_bastore hZ dX7_sheet_59 (by first | rfl | exact hC.t1 | exact hC.t2 | exact hC.t3 | exact hC.t4 | exact hC.t5) (by first | rfl | exact hC.l1 | exact hC.l2 | exact hC.l3 | exact hC.l4 | exact hC.l5) (by omega) (by omega) (by omega) ?_
              refine f_aload_n hZ dX7_sheet_60 rfl ?_
              refine gX7_94 hZ dX7_sheet_61 ?_
              refine f_iload_n hZ dX7_sheet_64 rfl ?_
              refine f_iload_n hZ dX7_sheet_65 rfl ?_
              refine f_iastore hZ dX7_sheet_66 (by first | rfl | exact hC.t1 | exact hC.t2 | exact hC.t3 | exact hC.t4 | exact hC.t5) (by first | rfl | exact hC.l1 | exact hC.l2 | exact hC.l3 | exact hC.l4 | exact hC.l5) (by omega) (by omega) (by omega) ?_
              refine f_aload_n hZ dX7_sheet_67 rfl ?_
              refine gX7_97 hZ dX7_sheet_68 ?_
              refine f_iload_n hZ dX7_sheet_71 rfl ?_
              refine f_iload_n hZ dX7_sheet_72 rfl ?_
              refine f_iastore hZ dX7_sheet_73 (by first | rfl | exact hC.t1 | exact hC.t2 | exact hC.t3 | exact hC.t4 | exact hC.t5) (by first | rfl | exact hC.l1 | exact hC.l2 | exact hC.l3 | exact hC.l4 | exact hC.l5) (by omega) (by omega) (by omega) ?_
              refine f_iconst hZ dX7_sheet_74 ?_
              refine f_istore (L' := [_, _, _, _, _]) hZ dX7_sheet_75 rfl rfl ?_
              first | (have hh := loop n.toNat 0 (by omega) (by omega) (by omega) (by omega) (by omega); rw [zeroI_0 (by omega)] at hh; exact hh) | exact sht_end (by omega) (by omega) hn hZ hR
            · refine f_iconst hZ dX7_sheet_54 ?_
              refine f_goto (tgt := 59) hZ dX7_sheet_55 rfl ?_
              refine f_bastore hZ dX7_sheet_59 (by first | rfl | exact hC.t1 | exact hC.t2 | exact hC.t3 | exact hC.t4 | exact hC.t5) (by first | rfl | exact hC.l1 | exact hC.l2 | exact hC.l3 | exact hC.l4 | exact hC.l5) (by omega) (by omega) (by omega) ?_
              refine f_aload_n hZ dX7_sheet_60 rfl ?_
              refine gX7_94 hZ dX7_sheet_61 ?_
              refine f_iload_n hZ dX7_sheet_64 rfl ?_
              refine f_iload_n hZ dX7_sheet_65 rfl ?_
              refine f_iastore hZ dX7_sheet_66 (by first | rfl | exact hC.t1 | exact hC.t2 | exact hC.t3 | exact hC.t4 | exact hC.t5) (by first | rfl | exact hC.l1 | exact hC.l2 | exact hC.l3 | exact hC.l4 | exact hC.l5) (by omega) (by omega) (by omega) ?_
              refine f_aload_n hZ dX7_sheet_67 rfl ?_
              refine gX7_97 hZ dX7_sheet_68 ?_
              refine f_iload_n hZ dX7_sheet_71 rfl ?_
              refine f_iload_n hZ dX7_sheet_72 rfl ?_
              refine f_iastore hZ dX7_sheet_73 (by first | rfl | exact hC.t1 | exact hC.t2 | exact hC.t3 | exact hC.t4 | exact hC.t5) (by first | rfl | exact hC.l1 | exact hC.l2 | exact hC.l3 | exact hC.l4 | exact hC.l5) (by omega) (by omega) (by omega) ?_
              refine f_iconst hZ dX7_sheet_74 ?_
              refine f_istore (L' := [_, _, _, _, _]) hZ dX7_sheet_75 rfl rfl ?_
              first | (have hh := loop n.toNat 0 (by omega) (by omega) (by omega) (by omega) (by omega); rw [zeroI_0 (by omega)] at hh; exact hh) | exact sht_end (by omega) (by omega) hn hZ hR
          · refine f_iload_n hZ dX7_sheet_38 rfl ?_
            refine f_ge (tgt := 45) hZ dX7_sheet_39 rfl (by omega) (fun h39 => ?_) (fun h39 => ?_)
            · refine f_aload_n hZ dX7_sheet_45 rfl ?_
              refine gX7_90 hZ dX7_sheet_46 ?_
              refine f_iload_n hZ dX7_sheet_49 rfl ?_
              refine f_iload_n hZ dX7_sheet_50 rfl ?_
              refine f_lt (tgt := 58) hZ dX7_sheet_51 rfl (by omega) (fun h51 => ?_) (fun h51 => ?_)
              · refine f_iconst hZ dX7_sheet_58 ?_
                refine f_bastore hZ dX7_sheet_59 (by first | rfl | exact hC.t1 | exact hC.t2 | exact hC.t3 | exact hC.t4 | exact hC.t5) (by first | rfl | exact hC.l1 | exact hC.l2 | exact hC.l3 | exact hC.l4 | exact hC.l5) (by omega) (by omega) (by omega) ?_
                refine f_aload_n hZ dX7_sheet_60 rfl ?_
                refine gX7_94 hZ dX7_sheet_61 ?_
                refine f_iload_n hZ dX7_sheet_64 rfl ?_
                refine f_iload_n hZ dX7_sheet_65 rfl ?_
                refine f_iastore hZ dX7_sheet_66 (by first | rfl | exact hC.t1 | exact hC.t2 | exact hC.t3 | exact hC.t4 | exact hC.t5) (by first | rfl | exact hC.l1 | exact hC.l2 | exact hC.l3 | exact hC.l4 | exact hC.l5) (by omega) (by omega) (by omega) ?_
                refine f_aload_n hZ dX7_sheet_67 rfl ?_
                refine gX7_97 hZ dX7_sheet_68 ?_
                refine f_iload_n hZ dX7_sheet_71 rfl ?_
                refine f_iload_n hZ dX7_sheet_72 rfl ?_
                refine f_iastore hZ dX7_sheet_73 (by first | rfl | exact hC.t1 | exact hC.t2 | exact hC.t3 | exact hC.t4 | exact hC.t5) (by first | rfl | exact hC.l1 | exact hC.l2 | exact hC.l3 | exact hC.l4 | exact hC.l5) (by omega) (by omega) (by omega) ?_
                refine f_iconst hZ dX7_sheet_74 ?_
                refine f_istore (L' := [_, _, _, _, _]) hZ dX7_sheet_75 rfl rfl ?_
                first | (have hh := loop n.toNat 0 (by omega) (by omega) (by omega) (by omega) (by omega); rw [zeroI_0 (by omega)] at hh; exact hh) | exact sht_end (by omega) (by omega) hn hZ hR
              · refine f_iconst hZ dX7_sheet_54 ?_
                refine f_goto (tgt := 59) hZ dX7_sheet_55 rfl ?_
                refine f_bastore hZ dX7_sheet_59 (by first | rfl | exact hC.t1 | exact hC.t2 | exact hC.t3 | exact hC.t4 | exact hC.t5) (by first | rfl | exact hC.l1 | exact hC.l2 | exact hC.l3 | exact hC.l4 | exact hC.l5) (by omega) (by omega) (by omega) ?_
                refine f_aload_n hZ dX7_sheet_60 rfl ?_
                refine gX7_94 hZ dX7_sheet_61 ?_
                refine f_iload_n hZ dX7_sheet_64 rfl ?_
                refine f_iload_n hZ dX7_sheet_65 rfl ?_
                refine f_iastore hZ dX7_sheet_66 (by first | rfl | exact hC.t1 | exact hC.t2 | exact hC.t3 | exact hC.t4 | exact hC.t5) (by first | rfl | exact hC.l1 | exact hC.l2 | exact hC.l3 | exact hC.l4 | exact hC.l5) (by omega) (by omega) (by omega) ?_
                refine f_aload_n hZ dX7_sheet_67 rfl ?_
                refine gX7_97 hZ dX7_sheet_68 ?_
                refine f_iload_n hZ dX7_sheet_71 rfl ?_
                refine f_iload_n hZ dX7_sheet_72 rfl ?_
                refine f_iastore hZ dX7_sheet_73 (by first | rfl | exact hC.t1 | exact hC.t2 | exact hC.t3 | exact hC.t4 | exact hC.t5) (by first | rfl | exact hC.l1 | exact hC.l2 | exact hC.l3 | exact hC.l4 | exact hC.l5) (by omega) (by omega) (by omega) ?_
                refine f_iconst hZ dX7_sheet_74 ?_
                refine f_istore (L' := [_, _, _, _, _]) hZ dX7_sheet_75 rfl rfl ?_
                first | (have hh := loop n.toNat 0 (by omega) (by omega) (by omega) (by omega) (by omega); rw [zeroI_0 (by omega)] at hh; exact hh) | exact sht_end (by omega) (by omega) hn hZ hR
            · refine f_bipush hZ dX7_sheet_42 ?_
              exact f_retI hZ hR dX7_sheet_44 rfl (by omega) (by first | exact Or.inl ⟨by omega, rfl, rfl⟩ | exact Or.inr (Or.inl ⟨by omega, by omega, rfl, rfl⟩) | (refine Or.inr (Or.inr ⟨by omega, by omega, rfl, ?_⟩); unfold shtM; rw [if_neg (by omega), if_neg (by omega), zeroI_0 (by omega)]))
        · refine f_bipush hZ dX7_sheet_31 ?_
          exact f_retI hZ hR dX7_sheet_33 rfl (by omega) (by first | exact Or.inl ⟨by omega, rfl, rfl⟩ | exact Or.inr (Or.inl ⟨by omega, by omega, rfl, rfl⟩) | (refine Or.inr (Or.inr ⟨by omega, by omega, rfl, ?_⟩); unfold shtM; rw [if_neg (by omega), if_neg (by omega), zeroI_0 (by omega)]))

abbrev reachM (M : fM) (s i n : Int) : Prop := 0 ≤ i ∧ 0 ≤ n ∧ i ≤ M 86 s - n
def WfT (M : fM) : Prop := ∀ s, 0 ≤ s → s < 4 → (M 84 s = 0 ∨ M 84 s = 1) ∧ (M 84 s = 1 → (0 ≤ M 85 s ∧ M 85 s ≤ 2) ∧ (0 ≤ M 86 s ∧ M 86 s ≤ 40))
set_option maxRecDepth 20000 in
set_option maxHeartbeats 4000000 in
theorem t_X7_cell {X : fX} {M : fM} {d : Nat} {s i v : Int} (hs : rg s) (hi : rg i) (hv : rg v) (hW : WfT M) : fC X (d + 2) mX7_cell [.ref (xa X 59), .int (iv s), .int (iv i), .int (iv v)] M (QI fun r M' => (¬ (0 ≤ s ∧ s < 4) ∧ r = -2 ∧ M' = M) ∨ ((0 ≤ s ∧ s < 4) ∧ M 84 s = 0 ∧ r = -11 ∧ M' = M) ∨ ((0 ≤ s ∧ s < 4) ∧ M 84 s = 1 ∧ ¬ (0 ≤ i ∧ i < M 86 s) ∧ r = -12 ∧ M' = M) ∨ ((0 ≤ s ∧ s < 4) ∧ M 84 s = 1 ∧ (0 ≤ i ∧ i < M 86 s) ∧ r = 1 ∧ M' = up M 87 (40 * s + i) (cutZ (M 85 s) v))) := by
  refine fC.of (L := [_, _, _, _]) (by decide +kernel) rfl (Nat.le_of_ble_eq_true rfl) (fun Z hZ hR => ?_)
  refine f_iload_n hZ dX7_cell_0 rfl ?_
  refine sX7_346 hZ dX7_cell_1 (t_X7_isSheet (by omega)) (fun a1 M1 r1 h1 => ?_)
  obtain ⟨e1, h1⟩ := h1
  replace e1 := e1.symm
  subst e1
  refine f_ne (tgt := 10) hZ dX7_cell_4 rfl (by first | omega | exact rg_of _) (fun h4 => ?_) (fun h4 => ?_)
  · have hq := hW s (by omega) (by omega)
    refine f_aload_n hZ dX7_cell_10 rfl ?_
    refine gX7_90 hZ dX7_cell_11 ?_
    refine f_iload_n hZ dX7_cell_14 rfl ?_
    refine f_baload hZ dX7_cell_15 (by first | rfl | exact hC.t1 | exact hC.t2 | exact hC.t3 | exact hC.t4 | exact hC.t5) (by first | rfl | exact hC.l1 | exact hC.l2 | exact hC.l3 | exact hC.l4 | exact hC.l5) (by first | omega | exact rg_of _) (by first | omega | exact rg_of _) (fun r15 => ?_)
    refine f_ne (tgt := 22) hZ dX7_cell_16 rfl (by first | omega | exact rg_of _) (fun h16 => ?_) (fun h16 => ?_)
    · refine f_iload_n hZ dX7_cell_22 rfl ?_
      refine f_i2l hZ dX7_cell_23 (by first | omega | exact rg_of _) ?_
      refine f_lconst0 hZ dX7_cell_24 ?_
      refine f_aload_n hZ dX7_cell_25 rfl ?_
      refine gX7_97 hZ dX7_cell_26 ?_
      refine f_iload_n hZ dX7_cell_29 rfl ?_
      refine f_iaload hZ dX7_cell_30 (by first | rfl | exact hC.t1 | exact hC.t2 | exact hC.t3 | exact hC.t4 | exact hC.t5) (by first | rfl | exact hC.l1 | exact hC.l2 | exact hC.l3 | exact hC.l4 | exact hC.l5) (by first | omega | exact rg_of _) (by first | omega | exact rg_of _) (fun r30 => ?_)
      refine f_iconst hZ dX7_cell_31 ?_
      refine f_isub hZ dX7_cell_32 ?_
      refine f_i2l hZ dX7_cell_33 (by first | omega | exact rg_of _) ?_
      refine sX7_113 hZ dX7_cell_34 (t_X7_in (by omega) (by omega) (by omega)) (fun a34 M34 r34 h34 => ?_)
      obtain ⟨e34, h34⟩ := h34
      replace e34 := e34.symm
      subst e34
      refine f_ne (tgt := 43) hZ dX7_cell_37 rfl (by first | omega | exact rg_of _) (fun h37 => ?_) (fun h37 => ?_)
      · refine f_aload_n hZ dX7_cell_43 rfl ?_
        refine gX7_100 hZ dX7_cell_44 ?_
        refine f_bipush hZ dX7_cell_47 ?_
        refine f_iload_n hZ dX7_cell_49 rfl ?_
        refine f_imul hZ dX7_cell_50 ?_
        refine f_iload_n hZ dX7_cell_51 rfl ?_
        refine f_iadd hZ dX7_cell_52 ?_
        refine f_aload_n hZ dX7_cell_53 rfl ?_
        refine gX7_94 hZ dX7_cell_54 ?_
        refine f_iload_n hZ dX7_cell_57 rfl ?_
        refine f_iaload hZ dX7_cell_58 (by first | rfl | exact hC.t1 | exact hC.t2 | exact hC.t3 | exact hC.t4 | exact hC.t5) (by first | rfl | exact hC.l1 | exact hC.l2 | exact hC.l3 | exact hC.l4 | exact hC.l5) (by first | omega | exact rg_of _) (by first | omega | exact rg_of _) (fun r58 => ?_)
        refine f_ne (tgt := 67) hZ dX7_cell_59 rfl (by first | omega | exact rg_of _) (fun h59 => ?_) (fun h59 => ?_)
        · refine f_aload_n hZ dX7_cell_67 rfl ?_
          refine gX7_94 hZ dX7_cell_68 ?_
          refine f_iload_n hZ dX7_cell_71 rfl ?_
          refine f_iaload hZ dX7_cell_72 (by first | rfl | exact hC.t1 | exact hC.t2 | exact hC.t3 | exact hC.t4 | exact hC.t5) (by first | rfl | exact hC.l1 | exact hC.l2 | exact hC.l3 | exact hC.l4 | exact hC.l5) (by first | omega | exact rg_of _) (by first | omega | exact rg_of _) (fun r72 => ?_)
          refine f_iconst hZ dX7_cell_73 ?_
          refine f_ine (tgt := 82) hZ dX7_cell_74 rfl (by first | omega | exact rg_of _) (by first | omega | exact rg_of _) (fun h74 => ?_) (fun h74 => ?_)
          · refine f_iload_n hZ dX7_cell_82 rfl ?_
            refine f_iastore hZ dX7_cell_83 (by first | rfl | exact hC.t1 | exact hC.t2 | exact hC.t3 | exact hC.t4 | exact hC.t5) (by first | rfl | exact hC.l1 | exact hC.l2 | exact hC.l3 | exact hC.l4 | exact hC.l5) (by first | omega | exact rg_of _) (by first | omega | exact rg_of _) (by first | omega | exact rg_of _) ?_
            refine f_iconst hZ dX7_cell_84 ?_
            exact f_retI hZ hR dX7_cell_85 rfl (by first | omega | exact rg_of _) (by first | exact Or.inl ⟨by omega, rfl, rfl⟩ | exact Or.inr (Or.inl ⟨by omega, by omega, rfl, rfl⟩) | exact Or.inr (Or.inr (Or.inl ⟨by omega, by omega, by omega, rfl, rfl⟩)) | (refine Or.inr (Or.inr (Or.inr ⟨by omega, by omega, by omega, rfl, ?_⟩)); unfold cutZ; first | rw [if_pos (by omega)] | (rw [if_neg (by omega)]; first | rw [if_pos (by omega)] | rw [if_neg (by omega)])))
          · refine f_iload_n hZ dX7_cell_77 rfl ?_
            refine f_i2s hZ dX7_cell_78 ?_
            refine f_goto (tgt := 83) hZ dX7_cell_79 rfl ?_
            refine f_iastore hZ dX7_cell_83 (by first | rfl | exact hC.t1 | exact hC.t2 | exact hC.t3 | exact hC.t4 | exact hC.t5) (by first | rfl | exact hC.l1 | exact hC.l2 | exact hC.l3 | exact hC.l4 | exact hC.l5) (by first | omega | exact rg_of _) (by first | omega | exact rg_of _) (by first | omega | exact rg_of _) ?_
            refine f_iconst hZ dX7_cell_84 ?_
            exact f_retI hZ hR dX7_cell_85 rfl (by first | omega | exact rg_of _) (by first | exact Or.inl ⟨by omega, rfl, rfl⟩ | exact Or.inr (Or.inl ⟨by omega, by omega, rfl, rfl⟩) | exact Or.inr (Or.inr (Or.inl ⟨by omega, by omega, by omega, rfl, rfl⟩)) | (refine Or.inr (Or.inr (Or.inr ⟨by omega, by omega, by omega, rfl, ?_⟩)); unfold cutZ; first | rw [if_pos (by omega)] | (rw [if_neg (by omega)]; first | rw [if_pos (by omega)] | rw [if_neg (by omega)])))
        · refine f_iload_n hZ dX7_cell_62 rfl ?_
          refine f_i2b hZ dX7_cell_63 ?_
          refine f_goto (tgt := 83) hZ dX7_cell_64 rfl ?_
          refine f_iastore hZ dX7_cell_83 (by first | rfl | exact hC.t1 | exact hC.t2 | exact hC.t3 | exact hC.t4 | exact hC.t5) (by first | rfl | exact hC.l1 | exact hC.l2 | exact hC.l3 | exact hC.l4 | exact hC.l5) (by first | omega | exact rg_of _) (by first | omega | exact rg_of _) (by first | omega | exact rg_of _) ?_
          refine f_iconst hZ dX7_cell_84 ?_
          exact f_retI hZ hR dX7_cell_85 rfl (by first | omega | exact rg_of _) (by first | exact Or.inl ⟨by omega, rfl, rfl⟩ | exact Or.inr (Or.inl ⟨by omega, by omega, rfl, rfl⟩) | exact Or.inr (Or.inr (Or.inl ⟨by omega, by omega, by omega, rfl, rfl⟩)) | (refine Or.inr (Or.inr (Or.inr ⟨by omega, by omega, by omega, rfl, ?_⟩)); unfold cutZ; first | rw [if_pos (by omega)] | (rw [if_neg (by omega)]; first | rw [if_pos (by omega)] | rw [if_neg (by omega)])))
      · refine f_bipush hZ dX7_cell_40 ?_
        exact f_retI hZ hR dX7_cell_42 rfl (by first | omega | exact rg_of _) (by first | exact Or.inl ⟨by omega, rfl, rfl⟩ | exact Or.inr (Or.inl ⟨by omega, by omega, rfl, rfl⟩) | exact Or.inr (Or.inr (Or.inl ⟨by omega, by omega, by omega, rfl, rfl⟩)) | (refine Or.inr (Or.inr (Or.inr ⟨by omega, by omega, by omega, rfl, ?_⟩)); unfold cutZ; first | rw [if_pos (by omega)] | (rw [if_neg (by omega)]; first | rw [if_pos (by omega)] | rw [if_neg (by omega)])))
    · refine f_bipush hZ dX7_cell_19 ?_
      exact f_retI hZ hR dX7_cell_21 rfl (by first | omega | exact rg_of _) (by first | exact Or.inl ⟨by omega, rfl, rfl⟩ | exact Or.inr (Or.inl ⟨by omega, by omega, rfl, rfl⟩) | exact Or.inr (Or.inr (Or.inl ⟨by omega, by omega, by omega, rfl, rfl⟩)) | (refine Or.inr (Or.inr (Or.inr ⟨by omega, by omega, by omega, rfl, ?_⟩)); unfold cutZ; first | rw [if_pos (by omega)] | (rw [if_neg (by omega)]; first | rw [if_pos (by omega)] | rw [if_neg (by omega)])))
  · refine f_bipush hZ dX7_cell_7 ?_
    exact f_retI hZ hR dX7_cell_9 rfl (by first | omega | exact rg_of _) (by first | exact Or.inl ⟨by omega, rfl, rfl⟩ | exact Or.inr (Or.inl ⟨by omega, by omega, rfl, rfl⟩) | exact Or.inr (Or.inr (Or.inl ⟨by omega, by omega, by omega, rfl, rfl⟩)) | (refine Or.inr (Or.inr (Or.inr ⟨by omega, by omega, by omega, rfl, ?_⟩)); unfold cutZ; first | rw [if_pos (by omega)] | (rw [if_neg (by omega)]; first | rw [if_pos (by omega)] | rw [if_neg (by omega)])))

