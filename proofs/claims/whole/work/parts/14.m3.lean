set_option maxRecDepth 20000 in
set_option maxHeartbeats 4000000 in
theorem t_X7_told {X : fX} {M : fM} {d : Nat} {w q : Int} (hw : rg w) (hq0 : rg q) (hW : WfM M) : fC X (d + 2) mX7_told [.ref (xa X 59), .int (iv w), .int (iv q)] M (QI fun r M' => M' = M ∧ r = toldZ (M 59 12) (M 63) (M 64) (M 65) (M 66) (M 67) (M 59 13) w q) := by
  obtain ⟨hn, hdm, hmo, hA⟩ := hW
  refine fC.of (L := [_, _, _]) (by decide +kernel) rfl (Nat.le_of_ble_eq_true rfl) (fun Z hZ hR => ?_)
  rcases (show (q < 0 ∨ 8 < q) ∨ q = 0 ∨ q = 1 ∨ q = 2 ∨ q = 3 ∨ q = 4 ∨ q = 5 ∨ q = 6 ∨ q = 7 ∨ q = 8 by omega) with hqq | rfl | rfl | rfl | rfl | rfl | rfl | rfl | rfl | rfl
  · refine f_aload_n hZ dX7_told_0 rfl ?_
    refine f_iload_n hZ dX7_told_1 rfl ?_
    refine vX7_123 hZ dX7_told_2 (t_X7_isWick (by omega) hn) (fun a2 M2 r2 h2 => ?_)
    obtain ⟨rfl, h2⟩ := h2
    refine f_eq (tgt := 20) hZ dX7_told_5 rfl (by omega) (fun h5 => ?_) (fun h5 => ?_)
    · refine f_bipush hZ dX7_told_20 ?_
      exact f_retI hZ hR dX7_told_22 rfl (by omega) (by first | exact ⟨rfl, by unfold toldZ; rw [if_pos (by omega)]⟩ | exact ⟨rfl, by unfold toldZ; rw [if_neg (by omega)]; rfl⟩)
    · refine f_iload_n hZ dX7_told_8 rfl ?_
      refine f_i2l hZ dX7_told_9 (by omega) ?_
      refine f_lconst0 hZ dX7_told_10 ?_
      refine f_ldc2 (v := (8 : Int64)) hZ (8) dX7_told_11 (tb_in 1025 (by decide +kernel) (by decide +kernel)) (by decide) ?_
      refine sX7_113 hZ dX7_told_14 (t_X7_in (by omega) (by omega) (by omega)) (fun a14 M14 r14 h14 => ?_)
      obtain ⟨rfl, h14⟩ := h14
      refine f_ne (tgt := 23) hZ dX7_told_17 rfl (by omega) (fun h17 => ?_) (fun h17 => ?_)
      · exfalso; omega
      · refine f_bipush hZ dX7_told_20 ?_
        exact f_retI hZ hR dX7_told_22 rfl (by omega) (by first | exact ⟨rfl, by unfold toldZ; rw [if_pos (by omega)]⟩ | exact ⟨rfl, by unfold toldZ; rw [if_neg (by omega)]; rfl⟩)
  · refine f_aload_n hZ dX7_told_0 rfl ?_
    refine f_iload_n hZ dX7_told_1 rfl ?_
    refine vX7_123 hZ dX7_told_2 (t_X7_isWick (by omega) hn) (fun a2 M2 r2 h2 => ?_)
    obtain ⟨rfl, h2⟩ := h2
    refine f_eq (tgt := 20) hZ dX7_told_5 rfl (by omega) (fun h5 => ?_) (fun h5 => ?_)
    · refine f_bipush hZ dX7_told_20 ?_
      exact f_retI hZ hR dX7_told_22 rfl (by omega) (by first | exact ⟨rfl, by unfold toldZ; rw [if_pos (by omega)]⟩ | exact ⟨rfl, by unfold toldZ; rw [if_neg (by omega)]; rfl⟩)
    · refine f_iload_n hZ dX7_told_8 rfl ?_
      refine f_i2l hZ dX7_told_9 (by omega) ?_
      refine f_lconst0 hZ dX7_told_10 ?_
      refine f_ldc2 (v := (8 : Int64)) hZ (8) dX7_told_11 (tb_in 1025 (by decide +kernel) (by decide +kernel)) (by decide) ?_
      refine sX7_113 hZ dX7_told_14 (t_X7_in (by omega) (by omega) (by omega)) (fun a14 M14 r14 h14 => ?_)
      obtain ⟨rfl, h14⟩ := h14
      refine f_ne (tgt := 23) hZ dX7_told_17 rfl (by omega) (fun h17 => ?_) (fun h17 => ?_)
      · have hq := hA w (by omega) (by omega)
        refine f_iload_n hZ dX7_told_23 rfl ?_
        refine f_iconst hZ dX7_told_24 ?_
        refine f_ige (tgt := 76) hZ dX7_told_25 rfl (by omega) (by omega) (fun h25 => ?_) (fun h25 => ?_)
        · exfalso; omega
        · refine f_iload_n hZ dX7_told_28 rfl ?_
          refine f_ne (tgt := 41) hZ dX7_told_29 rfl (by omega) (fun h29 => ?_) (fun h29 => ?_)
          · exfalso; omega
          · refine f_aload_n hZ dX7_told_32 rfl ?_
            refine gX7_29 hZ dX7_told_33 ?_
            refine f_iload_n hZ dX7_told_36 rfl ?_
            refine f_iaload hZ dX7_told_37 (by first | rfl | exact hC.t1 | exact hC.t2 | exact hC.t3 | exact hC.t4 | exact hC.t5) (by first | rfl | exact hC.l1 | exact hC.l2 | exact hC.l3 | exact hC.l4 | exact hC.l5) (by omega) (by omega) (fun r37 => ?_)
            refine f_goto (tgt := 75) hZ dX7_told_38 rfl ?_
            exact f_retI hZ hR dX7_told_75 rfl (by omega) (by first | exact ⟨rfl, by unfold toldZ; rw [if_pos (by omega)]⟩ | exact ⟨rfl, by unfold toldZ; rw [if_neg (by omega)]; rfl⟩)
      · refine f_bipush hZ dX7_told_20 ?_
        exact f_retI hZ hR dX7_told_22 rfl (by omega) (by first | exact ⟨rfl, by unfold toldZ; rw [if_pos (by omega)]⟩ | exact ⟨rfl, by unfold toldZ; rw [if_neg (by omega)]; rfl⟩)
  · refine f_aload_n hZ dX7_told_0 rfl ?_
    refine f_iload_n hZ dX7_told_1 rfl ?_
    refine vX7_123 hZ dX7_told_2 (t_X7_isWick (by omega) hn) (fun a2 M2 r2 h2 => ?_)
    obtain ⟨rfl, h2⟩ := h2
    refine f_eq (tgt := 20) hZ dX7_told_5 rfl (by omega) (fun h5 => ?_) (fun h5 => ?_)
    · refine f_bipush hZ dX7_told_20 ?_
      exact f_retI hZ hR dX7_told_22 rfl (by omega) (by first | exact ⟨rfl, by unfold toldZ; rw [if_pos (by omega)]⟩ | exact ⟨rfl, by unfold toldZ; rw [if_neg (by omega)]; rfl⟩)
    · refine f_iload_n hZ dX7_told_8 rfl ?_
      refine f_i2l hZ dX7_told_9 (by omega) ?_
      refine f_lconst0 hZ dX7_told_10 ?_
      refine f_ldc2 (v := (8 : Int64)) hZ (8) dX7_told_11 (tb_in 1025 (by decide +kernel) (by decide +kernel)) (by decide) ?_
      refine sX7_113 hZ dX7_told_14 (t_X7_in (by omega) (by omega) (by omega)) (fun a14 M14 r14 h14 => ?_)
      obtain ⟨rfl, h14⟩ := h14
      refine f_ne (tgt := 23) hZ dX7_told_17 rfl (by omega) (fun h17 => ?_) (fun h17 => ?_)
      · have hq := hA w (by omega) (by omega)
        refine f_iload_n hZ dX7_told_23 rfl ?_
        refine f_iconst hZ dX7_told_24 ?_
        refine f_ige (tgt := 76) hZ dX7_told_25 rfl (by omega) (by omega) (fun h25 => ?_) (fun h25 => ?_)
        · exfalso; omega
        · refine f_iload_n hZ dX7_told_28 rfl ?_
          refine f_ne (tgt := 41) hZ dX7_told_29 rfl (by omega) (fun h29 => ?_) (fun h29 => ?_)
          · refine f_iload_n hZ dX7_told_41 rfl ?_
            refine f_iconst hZ dX7_told_42 ?_
            refine f_ine (tgt := 55) hZ dX7_told_43 rfl (by omega) (by omega) (fun h43 => ?_) (fun h43 => ?_)
            · exfalso; omega
            · refine f_aload_n hZ dX7_told_46 rfl ?_
              refine gX7_32 hZ dX7_told_47 ?_
              refine f_iload_n hZ dX7_told_50 rfl ?_
              refine f_iaload hZ dX7_told_51 (by first | rfl | exact hC.t1 | exact hC.t2 | exact hC.t3 | exact hC.t4 | exact hC.t5) (by first | rfl | exact hC.l1 | exact hC.l2 | exact hC.l3 | exact hC.l4 | exact hC.l5) (by omega) (by omega) (fun r51 => ?_)
              refine f_goto (tgt := 75) hZ dX7_told_52 rfl ?_
              exact f_retI hZ hR dX7_told_75 rfl (by omega) (by first | exact ⟨rfl, by unfold toldZ; rw [if_pos (by omega)]⟩ | exact ⟨rfl, by unfold toldZ; rw [if_neg (by omega)]; rfl⟩)
          · exfalso; omega
      · refine f_bipush hZ dX7_told_20 ?_
        exact f_retI hZ hR dX7_told_22 rfl (by omega) (by first | exact ⟨rfl, by unfold toldZ; rw [if_pos (by omega)]⟩ | exact ⟨rfl, by unfold toldZ; rw [if_neg (by omega)]; rfl⟩)
  · refine f_aload_n hZ dX7_told_0 rfl ?_
    refine f_iload_n hZ dX7_told_1 rfl ?_
    refine vX7_123 hZ dX7_told_2 (t_X7_isWick (by omega) hn) (fun a2 M2 r2 h2 => ?_)
    obtain ⟨rfl, h2⟩ := h2
    refine f_eq (tgt := 20) hZ dX7_told_5 rfl (by omega) (fun h5 => ?_) (fun h5 => ?_)
    · refine f_bipush hZ dX7_told_20 ?_
      exact f_retI hZ hR dX7_told_22 rfl (by omega) (by first | exact ⟨rfl, by unfold toldZ; rw [if_pos (by omega)]⟩ | exact ⟨rfl, by unfold toldZ; rw [if_neg (by omega)]; rfl⟩)
    · refine f_iload_n hZ dX7_told_8 rfl ?_
      refine f_i2l hZ dX7_told_9 (by omega) ?_
      refine f_lconst0 hZ dX7_told_10 ?_
      refine f_ldc2 (v := (8 : Int64)) hZ (8) dX7_told_11 (tb_in 1025 (by decide +kernel) (by decide +kernel)) (by decide) ?_
      refine sX7_113 hZ dX7_told_14 (t_X7_in (by omega) (by omega) (by omega)) (fun a14 M14 r14 h14 => ?_)
      obtain ⟨rfl, h14⟩ := h14
      refine f_ne (tgt := 23) hZ dX7_told_17 rfl (by omega) (fun h17 => ?_) (fun h17 => ?_)
      · have hq := hA w (by omega) (by omega)
        refine f_iload_n hZ dX7_told_23 rfl ?_
        refine f_iconst hZ dX7_told_24 ?_
        refine f_ige (tgt := 76) hZ dX7_told_25 rfl (by omega) (by omega) (fun h25 => ?_) (fun h25 => ?_)
        · exfalso; omega
        · refine f_iload_n hZ dX7_told_28 rfl ?_
          refine f_ne (tgt := 41) hZ dX7_told_29 rfl (by omega) (fun h29 => ?_) (fun h29 => ?_)
          · refine f_iload_n hZ dX7_told_41 rfl ?_
            refine f_iconst hZ dX7_told_42 ?_
            refine f_ine (tgt := 55) hZ dX7_told_43 rfl (by omega) (by omega) (fun h43 => ?_) (fun h43 => ?_)
            · refine f_iload_n hZ dX7_told_55 rfl ?_
              refine f_iconst hZ dX7_told_56 ?_
              refine f_ine (tgt := 69) hZ dX7_told_57 rfl (by omega) (by omega) (fun h57 => ?_) (fun h57 => ?_)
              · exfalso; omega
              · refine f_aload_n hZ dX7_told_60 rfl ?_
                refine gX7_35 hZ dX7_told_61 ?_
                refine f_iload_n hZ dX7_told_64 rfl ?_
                refine f_iaload hZ dX7_told_65 (by first | rfl | exact hC.t1 | exact hC.t2 | exact hC.t3 | exact hC.t4 | exact hC.t5) (by first | rfl | exact hC.l1 | exact hC.l2 | exact hC.l3 | exact hC.l4 | exact hC.l5) (by omega) (by omega) (fun r65 => ?_)
                refine f_goto (tgt := 75) hZ dX7_told_66 rfl ?_
                exact f_retI hZ hR dX7_told_75 rfl (by omega) (by first | exact ⟨rfl, by unfold toldZ; rw [if_pos (by omega)]⟩ | exact ⟨rfl, by unfold toldZ; rw [if_neg (by omega)]; rfl⟩)
            · exfalso; omega
          · exfalso; omega
      · refine f_bipush hZ dX7_told_20 ?_
        exact f_retI hZ hR dX7_told_22 rfl (by omega) (by first | exact ⟨rfl, by unfold toldZ; rw [if_pos (by omega)]⟩ | exact ⟨rfl, by unfold toldZ; rw [if_neg (by omega)]; rfl⟩)
  · refine f_aload_n hZ dX7_told_0 rfl ?_
    refine f_iload_n hZ dX7_told_1 rfl ?_
    refine vX7_123 hZ dX7_told_2 (t_X7_isWick (by omega) hn) (fun a2 M2 r2 h2 => ?_)
    obtain ⟨rfl, h2⟩ := h2
    refine f_eq (tgt := 20) hZ dX7_told_5 rfl (by omega) (fun h5 => ?_) (fun h5 => ?_)
    · refine f_bipush hZ dX7_told_20 ?_
      exact f_retI hZ hR dX7_told_22 rfl (by omega) (by first | exact ⟨rfl, by unfold toldZ; rw [if_pos (by omega)]⟩ | exact ⟨rfl, by unfold toldZ; rw [if_neg (by omega)]; rfl⟩)
    · refine f_iload_n hZ dX7_told_8 rfl ?_
      refine f_i2l hZ dX7_told_9 (by omega) ?_
      refine f_lconst0 hZ dX7_told_10 ?_
      refine f_ldc2 (v := (8 : Int64)) hZ (8) dX7_told_11 (tb_in 1025 (by decide +kernel) (by decide +kernel)) (by decide) ?_
      refine sX7_113 hZ dX7_told_14 (t_X7_in (by omega) (by omega) (by omega)) (fun a14 M14 r14 h14 => ?_)
      obtain ⟨rfl, h14⟩ := h14
      refine f_ne (tgt := 23) hZ dX7_told_17 rfl (by omega) (fun h17 => ?_) (fun h17 => ?_)
      · have hq := hA w (by omega) (by omega)
        refine f_iload_n hZ dX7_told_23 rfl ?_
        refine f_iconst hZ dX7_told_24 ?_
        refine f_ige (tgt := 76) hZ dX7_told_25 rfl (by omega) (by omega) (fun h25 => ?_) (fun h25 => ?_)
        · exfalso; omega
        · refine f_iload_n hZ dX7_told_28 rfl ?_
          refine f_ne (tgt := 41) hZ dX7_told_29 rfl (by omega) (fun h29 => ?_) (fun h29 => ?_)
          · refine f_iload_n hZ dX7_told_41 rfl ?_
            refine f_iconst hZ dX7_told_42 ?_
            refine f_ine (tgt := 55) hZ dX7_told_43 rfl (by omega) (by omega) (fun h43 => ?_) (fun h43 => ?_)
            · refine f_iload_n hZ dX7_told_55 rfl ?_
              refine f_iconst hZ dX7_told_56 ?_
              refine f_ine (tgt := 69) hZ dX7_told_57 rfl (by omega) (by omega) (fun h57 => ?_) (fun h57 => ?_)
              · refine f_aload_n hZ dX7_told_69 rfl ?_
                refine gX7_26 hZ dX7_told_70 ?_
                refine f_iload_n hZ dX7_told_73 rfl ?_
                refine f_iaload hZ dX7_told_74 (by first | rfl | exact hC.t1 | exact hC.t2 | exact hC.t3 | exact hC.t4 | exact hC.t5) (by first | rfl | exact hC.l1 | exact hC.l2 | exact hC.l3 | exact hC.l4 | exact hC.l5) (by omega) (by omega) (fun r74 => ?_)
                exact f_retI hZ hR dX7_told_75 rfl (by omega) (by first | exact ⟨rfl, by unfold toldZ; rw [if_pos (by omega)]⟩ | exact ⟨rfl, by unfold toldZ; rw [if_neg (by omega)]; rfl⟩)
              · exfalso; omega
            · exfalso; omega
          · exfalso; omega
      · refine f_bipush hZ dX7_told_20 ?_
        exact f_retI hZ hR dX7_told_22 rfl (by omega) (by first | exact ⟨rfl, by unfold toldZ; rw [if_pos (by omega)]⟩ | exact ⟨rfl, by unfold toldZ; rw [if_neg (by omega)]; rfl⟩)
  · refine f_aload_n hZ dX7_told_0 rfl ?_
    refine f_iload_n hZ dX7_told_1 rfl ?_
    refine vX7_123 hZ dX7_told_2 (t_X7_isWick (by omega) hn) (fun a2 M2 r2 h2 => ?_)
    obtain ⟨rfl, h2⟩ := h2
    refine f_eq (tgt := 20) hZ dX7_told_5 rfl (by omega) (fun h5 => ?_) (fun h5 => ?_)
    · refine f_bipush hZ dX7_told_20 ?_
      exact f_retI hZ hR dX7_told_22 rfl (by omega) (by first | exact ⟨rfl, by unfold toldZ; rw [if_pos (by omega)]⟩ | exact ⟨rfl, by unfold toldZ; rw [if_neg (by omega)]; rfl⟩)
    · refine f_iload_n hZ dX7_told_8 rfl ?_
      refine f_i2l hZ dX7_told_9 (by omega) ?_
      refine f_lconst0 hZ dX7_told_10 ?_
      refine f_ldc2 (v := (8 : Int64)) hZ (8) dX7_told_11 (tb_in 1025 (by decide +kernel) (by decide +kernel)) (by decide) ?_
      refine sX7_113 hZ dX7_told_14 (t_X7_in (by omega) (by omega) (by omega)) (fun a14 M14 r14 h14 => ?_)
      obtain ⟨rfl, h14⟩ := h14
      refine f_ne (tgt := 23) hZ dX7_told_17 rfl (by omega) (fun h17 => ?_) (fun h17 => ?_)
      · have hq := hA w (by omega) (by omega)
        refine f_iload_n hZ dX7_told_23 rfl ?_
        refine f_iconst hZ dX7_told_24 ?_
        refine f_ige (tgt := 76) hZ dX7_told_25 rfl (by omega) (by omega) (fun h25 => ?_) (fun h25 => ?_)
        · refine f_iload_n hZ dX7_told_76 rfl ?_
          refine f_iconst hZ dX7_told_77 ?_
          refine f_ine (tgt := 88) hZ dX7_told_78 rfl (by omega) (by omega) (fun h78 => ?_) (fun h78 => ?_)
          · exfalso; omega
          · refine f_aload_n hZ dX7_told_81 rfl ?_
            refine gX7_23 hZ dX7_told_82 ?_
            refine f_iload_n hZ dX7_told_85 rfl ?_
            refine f_iaload hZ dX7_told_86 (by first | rfl | exact hC.t1 | exact hC.t2 | exact hC.t3 | exact hC.t4 | exact hC.t5) (by first | rfl | exact hC.l1 | exact hC.l2 | exact hC.l3 | exact hC.l4 | exact hC.l5) (by omega) (by omega) (fun r86 => ?_)
            exact f_retI hZ hR dX7_told_87 rfl (by omega) (by first | exact ⟨rfl, by unfold toldZ; rw [if_pos (by omega)]⟩ | exact ⟨rfl, by unfold toldZ; rw [if_neg (by omega)]; rfl⟩)
        · exfalso; omega
      · refine f_bipush hZ dX7_told_20 ?_
        exact f_retI hZ hR dX7_told_22 rfl (by omega) (by first | exact ⟨rfl, by unfold toldZ; rw [if_pos (by omega)]⟩ | exact ⟨rfl, by unfold toldZ; rw [if_neg (by omega)]; rfl⟩)
  · refine f_aload_n hZ dX7_told_0 rfl ?_
    refine f_iload_n hZ dX7_told_1 rfl ?_
    refine vX7_123 hZ dX7_told_2 (t_X7_isWick (by omega) hn) (fun a2 M2 r2 h2 => ?_)
    obtain ⟨rfl, h2⟩ := h2
    refine f_eq (tgt := 20) hZ dX7_told_5 rfl (by omega) (fun h5 => ?_) (fun h5 => ?_)
    · refine f_bipush hZ dX7_told_20 ?_
      exact f_retI hZ hR dX7_told_22 rfl (by omega) (by first | exact ⟨rfl, by unfold toldZ; rw [if_pos (by omega)]⟩ | exact ⟨rfl, by unfold toldZ; rw [if_neg (by omega)]; rfl⟩)
    · refine f_iload_n hZ dX7_told_8 rfl ?_
      refine f_i2l hZ dX7_told_9 (by omega) ?_
      refine f_lconst0 hZ dX7_told_10 ?_
      refine f_ldc2 (v := (8 : Int64)) hZ (8) dX7_told_11 (tb_in 1025 (by decide +kernel) (by decide +kernel)) (by decide) ?_
      refine sX7_113 hZ dX7_told_14 (t_X7_in (by omega) (by omega) (by omega)) (fun a14 M14 r14 h14 => ?_)
      obtain ⟨rfl, h14⟩ := h14
      refine f_ne (tgt := 23) hZ dX7_told_17 rfl (by omega) (fun h17 => ?_) (fun h17 => ?_)
      · have hq := hA w (by omega) (by omega)
        refine f_iload_n hZ dX7_told_23 rfl ?_
        refine f_iconst hZ dX7_told_24 ?_
        refine f_ige (tgt := 76) hZ dX7_told_25 rfl (by omega) (by omega) (fun h25 => ?_) (fun h25 => ?_)
        · refine f_iload_n hZ dX7_told_76 rfl ?_
          refine f_iconst hZ dX7_told_77 ?_
          refine f_ine (tgt := 88) hZ dX7_told_78 rfl (by omega) (by omega) (fun h78 => ?_) (fun h78 => ?_)
          · refine f_iload_n hZ dX7_told_88 rfl ?_
            refine f_bipush hZ dX7_told_89 ?_
            refine f_ine (tgt := 108) hZ dX7_told_91 rfl (by omega) (by omega) (fun h91 => ?_) (fun h91 => ?_)
            · refine f_aload_n hZ dX7_told_108 rfl ?_
              refine f_iload_n hZ dX7_told_109 rfl ?_
              refine f_iload_n hZ dX7_told_110 rfl ?_
              refine f_iconst hZ dX7_told_111 ?_
              refine f_ine (tgt := 124) hZ dX7_told_112 rfl (by omega) (by omega) (fun h112 => ?_) (fun h112 => ?_)
              · exfalso; omega
              · refine f_aload_n hZ dX7_told_115 rfl ?_
                refine gX7_32 hZ dX7_told_116 ?_
                refine f_iload_n hZ dX7_told_119 rfl ?_
                refine f_iaload hZ dX7_told_120 (by first | rfl | exact hC.t1 | exact hC.t2 | exact hC.t3 | exact hC.t4 | exact hC.t5) (by first | rfl | exact hC.l1 | exact hC.l2 | exact hC.l3 | exact hC.l4 | exact hC.l5) (by omega) (by omega) (fun r120 => ?_)
                refine f_goto (tgt := 128) hZ dX7_told_121 rfl ?_
                refine f_aload_n hZ dX7_told_128 rfl ?_
                refine gX7_133 hZ dX7_told_129 (fun r129 => ?_)
                refine vX7_145 hZ dX7_told_132 (t_X7_fast (by omega) (by omega) (by omega) (by omega) (by omega)) (fun a132 M132 r132 h132 => ?_)
                obtain ⟨rfl, rfl⟩ := h132
                exact f_retI hZ hR dX7_told_135 rfl (by omega) (by first | exact ⟨rfl, by unfold toldZ; rw [if_pos (by omega)]⟩ | exact ⟨rfl, by unfold toldZ; rw [if_neg (by omega)]; rfl⟩)
            · exfalso; omega
          · exfalso; omega
        · exfalso; omega
      · refine f_bipush hZ dX7_told_20 ?_
        exact f_retI hZ hR dX7_told_22 rfl (by omega) (by first | exact ⟨rfl, by unfold toldZ; rw [if_pos (by omega)]⟩ | exact ⟨rfl, by unfold toldZ; rw [if_neg (by omega)]; rfl⟩)
  · refine f_aload_n hZ dX7_told_0 rfl ?_
    refine f_iload_n hZ dX7_told_1 rfl ?_
    refine vX7_123 hZ dX7_told_2 (t_X7_isWick (by omega) hn) (fun a2 M2 r2 h2 => ?_)
    obtain ⟨rfl, h2⟩ := h2
    refine f_eq (tgt := 20) hZ dX7_told_5 rfl (by omega) (fun h5 => ?_) (fun h5 => ?_)
    · refine f_bipush hZ dX7_told_20 ?_
      exact f_retI hZ hR dX7_told_22 rfl (by omega) (by first | exact ⟨rfl, by unfold toldZ; rw [if_pos (by omega)]⟩ | exact ⟨rfl, by unfold toldZ; rw [if_neg (by omega)]; rfl⟩)
    · refine f_iload_n hZ dX7_told_8 rfl ?_
      refine f_i2l hZ dX7_told_9 (by omega) ?_
      refine f_lconst0 hZ dX7_told_10 ?_
      refine f_ldc2 (v := (8 : Int64)) hZ (8) dX7_told_11 (tb_in 1025 (by decide +kernel) (by decide +kernel)) (by decide) ?_
      refine sX7_113 hZ dX7_told_14 (t_X7_in (by omega) (by omega) (by omega)) (fun a14 M14 r14 h14 => ?_)
      obtain ⟨rfl, h14⟩ := h14
      refine f_ne (tgt := 23) hZ dX7_told_17 rfl (by omega) (fun h17 => ?_) (fun h17 => ?_)
      · have hq := hA w (by omega) (by omega)
        refine f_iload_n hZ dX7_told_23 rfl ?_
        refine f_iconst hZ dX7_told_24 ?_
        refine f_ige (tgt := 76) hZ dX7_told_25 rfl (by omega) (by omega) (fun h25 => ?_) (fun h25 => ?_)
        · refine f_iload_n hZ dX7_told_76 rfl ?_
          refine f_iconst hZ dX7_told_77 ?_
          refine f_ine (tgt := 88) hZ dX7_told_78 rfl (by omega) (by omega) (fun h78 => ?_) (fun h78 => ?_)
          · refine f_iload_n hZ dX7_told_88 rfl ?_
            refine f_bipush hZ dX7_told_89 ?_
            refine f_ine (tgt := 108) hZ dX7_told_91 rfl (by omega) (by omega) (fun h91 => ?_) (fun h91 => ?_)
            · exfalso; omega
            · refine f_aload_n hZ dX7_told_94 rfl ?_
              refine f_iload_n hZ dX7_told_95 rfl ?_
              refine f_aload_n hZ dX7_told_96 rfl ?_
              refine gX7_35 hZ dX7_told_97 ?_
              refine f_iload_n hZ dX7_told_100 rfl ?_
              refine f_iaload hZ dX7_told_101 (by first | rfl | exact hC.t1 | exact hC.t2 | exact hC.t3 | exact hC.t4 | exact hC.t5) (by first | rfl | exact hC.l1 | exact hC.l2 | exact hC.l3 | exact hC.l4 | exact hC.l5) (by omega) (by omega) (fun r101 => ?_)
              refine vX7_141 hZ dX7_told_102 (t_X7_ash (by omega) (by omega) (by omega) (by omega)) (fun a102 M102 r102 h102 => ?_)
              obtain ⟨rfl, rfl⟩ := h102
              refine f_goto (tgt := 135) hZ dX7_told_105 rfl ?_
              exact f_retI hZ hR dX7_told_135 rfl (by omega) (by first | exact ⟨rfl, by unfold toldZ; rw [if_pos (by omega)]⟩ | exact ⟨rfl, by unfold toldZ; rw [if_neg (by omega)]; rfl⟩)
          · exfalso; omega
        · exfalso; omega
      · refine f_bipush hZ dX7_told_20 ?_
        exact f_retI hZ hR dX7_told_22 rfl (by omega) (by first | exact ⟨rfl, by unfold toldZ; rw [if_pos (by omega)]⟩ | exact ⟨rfl, by unfold toldZ; rw [if_neg (by omega)]; rfl⟩)
  · refine f_aload_n hZ dX7_told_0 rfl ?_
    refine f_iload_n hZ dX7_told_1 rfl ?_
    refine vX7_123 hZ dX7_told_2 (t_X7_isWick (by omega) hn) (fun a2 M2 r2 h2 => ?_)
    obtain ⟨rfl, h2⟩ := h2
    refine f_eq (tgt := 20) hZ dX7_told_5 rfl (by omega) (fun h5 => ?_) (fun h5 => ?_)
    · refine f_bipush hZ dX7_told_20 ?_
      exact f_retI hZ hR dX7_told_22 rfl (by omega) (by first | exact ⟨rfl, by unfold toldZ; rw [if_pos (by omega)]⟩ | exact ⟨rfl, by unfold toldZ; rw [if_neg (by omega)]; rfl⟩)
    · refine f_iload_n hZ dX7_told_8 rfl ?_
      refine f_i2l hZ dX7_told_9 (by omega) ?_
      refine f_lconst0 hZ dX7_told_10 ?_
      refine f_ldc2 (v := (8 : Int64)) hZ (8) dX7_told_11 (tb_in 1025 (by decide +kernel) (by decide +kernel)) (by decide) ?_
      refine sX7_113 hZ dX7_told_14 (t_X7_in (by omega) (by omega) (by omega)) (fun a14 M14 r14 h14 => ?_)
      obtain ⟨rfl, h14⟩ := h14
      refine f_ne (tgt := 23) hZ dX7_told_17 rfl (by omega) (fun h17 => ?_) (fun h17 => ?_)
      · have hq := hA w (by omega) (by omega)
        refine f_iload_n hZ dX7_told_23 rfl ?_
        refine f_iconst hZ dX7_told_24 ?_
        refine f_ige (tgt := 76) hZ dX7_told_25 rfl (by omega) (by omega) (fun h25 => ?_) (fun h25 => ?_)
        · refine f_iload_n hZ dX7_told_76 rfl ?_
          refine f_iconst hZ dX7_told_77 ?_
          refine f_ine (tgt := 88) hZ dX7_told_78 rfl (by omega) (by omega) (fun h78 => ?_) (fun h78 => ?_)
          · refine f_iload_n hZ dX7_told_88 rfl ?_
            refine f_bipush hZ dX7_told_89 ?_
            refine f_ine (tgt := 108) hZ dX7_told_91 rfl (by omega) (by omega) (fun h91 => ?_) (fun h91 => ?_)
            · refine f_aload_n hZ dX7_told_108 rfl ?_
              refine f_iload_n hZ dX7_told_109 rfl ?_
              refine f_iload_n hZ dX7_told_110 rfl ?_
              refine f_iconst hZ dX7_told_111 ?_
              refine f_ine (tgt := 124) hZ dX7_told_112 rfl (by omega) (by omega) (fun h112 => ?_) (fun h112 => ?_)
              · refine f_iload_n hZ dX7_told_124 rfl ?_
                refine f_bipush hZ dX7_told_125 ?_
                refine f_isub hZ dX7_told_127 ?_
                refine f_aload_n hZ dX7_told_128 rfl ?_
                refine gX7_133 hZ dX7_told_129 (fun r129 => ?_)
                refine vX7_145 hZ dX7_told_132 (t_X7_fast (by omega) (by omega) (by omega) (by omega) (by omega)) (fun a132 M132 r132 h132 => ?_)
                obtain ⟨rfl, rfl⟩ := h132
                exact f_retI hZ hR dX7_told_135 rfl (by omega) (by first | exact ⟨rfl, by unfold toldZ; rw [if_pos (by omega)]⟩ | exact ⟨rfl, by unfold toldZ; rw [if_neg (by omega)]; rfl⟩)
              · exfalso; omega
            · exfalso; omega
          · exfalso; omega
        · exfalso; omega
      · refine f_bipush hZ dX7_told_20 ?_
        exact f_retI hZ hR dX7_told_22 rfl (by omega) (by first | exact ⟨rfl, by unfold toldZ; rw [if_pos (by omega)]⟩ | exact ⟨rfl, by unfold toldZ; rw [if_neg (by omega)]; rfl⟩)
  · refine f_aload_n hZ dX7_told_0 rfl ?_
    refine f_iload_n hZ dX7_told_1 rfl ?_
    refine vX7_123 hZ dX7_told_2 (t_X7_isWick (by omega) hn) (fun a2 M2 r2 h2 => ?_)
    obtain ⟨rfl, h2⟩ := h2
    refine f_eq (tgt := 20) hZ dX7_told_5 rfl (by omega) (fun h5 => ?_) (fun h5 => ?_)
    · refine f_bipush hZ dX7_told_20 ?_
      exact f_retI hZ hR dX7_told_22 rfl (by omega) (by first | exact ⟨rfl, by unfold toldZ; rw [if_pos (by omega)]⟩ | exact ⟨rfl, by unfold toldZ; rw [if_neg (by omega)]; rfl⟩)
    · refine f_iload_n hZ dX7_told_8 rfl ?_
      refine f_i2l hZ dX7_told_9 (by omega) ?_
      refine f_lconst0 hZ dX7_told_10 ?_
      refine f_ldc2 (v := (8 : Int64)) hZ (8) dX7_told_11 (tb_in 1025 (by decide +kernel) (by decide +kernel)) (by decide) ?_
      refine sX7_113 hZ dX7_told_14 (t_X7_in (by omega) (by omega) (by omega)) (fun a14 M14 r14 h14 => ?_)
      obtain ⟨rfl, h14⟩ := h14
      refine f_ne (tgt := 23) hZ dX7_told_17 rfl (by omega) (fun h17 => ?_) (fun h17 => ?_)
      · have hq := hA w (by omega) (by omega)
        refine f_iload_n hZ dX7_told_23 rfl ?_
        refine f_iconst hZ dX7_told_24 ?_
        refine f_ige (tgt := 76) hZ dX7_told_25 rfl (by omega) (by omega) (fun h25 => ?_) (fun h25 => ?_)
        · refine f_iload_n hZ dX7_told_76 rfl ?_
          refine f_iconst hZ dX7_told_77 ?_
          refine f_ine (tgt := 88) hZ dX7_told_78 rfl (by omega) (by omega) (fun h78 => ?_) (fun h78 => ?_)
          · refine f_iload_n hZ dX7_told_88 rfl ?_
            refine f_bipush hZ dX7_told_89 ?_
            refine f_ine (tgt := 108) hZ dX7_told_91 rfl (by omega) (by omega) (fun h91 => ?_) (fun h91 => ?_)
            · refine f_aload_n hZ dX7_told_108 rfl ?_
              refine f_iload_n hZ dX7_told_109 rfl ?_
              refine f_iload_n hZ dX7_told_110 rfl ?_
              refine f_iconst hZ dX7_told_111 ?_
              refine f_ine (tgt := 124) hZ dX7_told_112 rfl (by omega) (by omega) (fun h112 => ?_) (fun h112 => ?_)
              · refine f_iload_n hZ dX7_told_124 rfl ?_
                refine f_bipush hZ dX7_told_125 ?_
                refine f_isub hZ dX7_told_127 ?_
                refine f_aload_n hZ dX7_told_128 rfl ?_
                refine gX7_133 hZ dX7_told_129 (fun r129 => ?_)
                refine vX7_145 hZ dX7_told_132 (t_X7_fast (by omega) (by omega) (by omega) (by omega) (by omega)) (fun a132 M132 r132 h132 => ?_)
                obtain ⟨rfl, rfl⟩ := h132
                exact f_retI hZ hR dX7_told_135 rfl (by omega) (by first | exact ⟨rfl, by unfold toldZ; rw [if_pos (by omega)]⟩ | exact ⟨rfl, by unfold toldZ; rw [if_neg (by omega)]; rfl⟩)
              · exfalso; omega
            · exfalso; omega
          · exfalso; omega
        · exfalso; omega
      · refine f_bipush hZ dX7_told_20 ?_
        exact f_retI hZ hR dX7_told_22 rfl (by omega) (by first | exact ⟨rfl, by unfold toldZ; rw [if_pos (by omega)]⟩ | exact ⟨rfl, by unfold toldZ; rw [if_neg (by omega)]; rfl⟩)

set_option maxRecDepth 20000 in
set_option maxHeartbeats 4000000 in
theorem t_X7_feed {X : fX} {M : fM} {d : Nat} {b : Int} (hb : rg b) (ht : 0 ≤ M 59 6 ∧ M 59 6 ≤ 160) : fC X (d + 1) mX7_feed [.ref (xa X 59), .int (iv b)] M (QI fun r M' => (¬ (0 ≤ b ∧ b ≤ 255) ∧ r = -2 ∧ M' = M) ∨ ((0 ≤ b ∧ b ≤ 255) ∧ M 59 6 = 160 ∧ r = -4 ∧ M' = M) ∨ ((0 ≤ b ∧ b ≤ 255) ∧ M 59 6 < 160 ∧ r = M 59 6 + 1 ∧ M' = up (up M 62 (M 59 6) b) 59 6 (M 59 6 + 1))) := by
  refine fC.of (L := [_, _]) (by decide +kernel) rfl (Nat.le_of_ble_eq_true rfl) (fun Z hZ hR => ?_)
  refine f_iload_n hZ dX7_feed_0 rfl ?_
  refine f_i2l hZ dX7_feed_1 (by omega) ?_
  refine f_lconst0 hZ dX7_feed_2 ?_
  refine f_ldc2 (v := (255 : Int64)) hZ (255) dX7_feed_3 (tb_in 1038 (by decide +kernel) (by decide +kernel)) (by decide) ?_
  refine sX7_113 hZ dX7_feed_6 (t_X7_in (by omega) (by omega) (by omega)) (fun a6 M6 r6 h6 => ?_)
  obtain ⟨rfl, h6⟩ := h6
  refine f_ne (tgt := 15) hZ dX7_feed_9 rfl (by omega) (fun h9 => ?_) (fun h9 => ?_)
  · refine f_aload_n hZ dX7_feed_15 rfl ?_
    refine gX7_151 hZ dX7_feed_16 (fun r16 => ?_)
    refine f_sipush hZ dX7_feed_19 ?_
    refine f_ine (tgt := 28) hZ dX7_feed_22 rfl (by omega) (by omega) (fun h22 => ?_) (fun h22 => ?_)
    · refine f_aload_n hZ dX7_feed_28 rfl ?_
      refine gX7_20 hZ dX7_feed_29 ?_
      refine f_aload_n hZ dX7_feed_32 rfl ?_
      refine gX7_151 hZ dX7_feed_33 (fun r33 => ?_)
      refine f_iload_n hZ dX7_feed_36 rfl ?_
      refine f_iastore hZ dX7_feed_37 (by first | rfl | exact hC.t1 | exact hC.t2 | exact hC.t3 | exact hC.t4 | exact hC.t5) (by first | rfl | exact hC.l1 | exact hC.l2 | exact hC.l3 | exact hC.l4 | exact hC.l5) (by omega) (by omega) (by omega) ?_
      refine f_aload_n hZ dX7_feed_38 rfl ?_
      refine f_dup hZ dX7_feed_39 rfl ?_
      refine gX7_151 hZ dX7_feed_40 (fun r40 => ?_)
      try simp only [up_app, Nat.reduceEqDiff, Nat.reduceEqDiff, Int.reduceEq, and_true, true_and, and_false, false_and, if_true, if_false, reduceIte] at r40 ⊢
      refine f_iconst hZ dX7_feed_43 ?_
      refine f_iadd hZ dX7_feed_44 ?_
      refine pX7_151 hZ dX7_feed_45 (by omega) ?_
      refine f_aload_n hZ dX7_feed_48 rfl ?_
      refine gX7_151 hZ dX7_feed_49 (fun r49 => ?_)
      try simp only [up_app, Nat.reduceEqDiff, Nat.reduceEqDiff, Int.reduceEq, and_true, true_and, and_false, false_and, if_true, if_false, reduceIte] at r49 ⊢
      exact f_retI hZ hR dX7_feed_52 rfl (by omega) (by first | exact Or.inl ⟨by omega, rfl, rfl⟩ | exact Or.inr (Or.inl ⟨by omega, by omega, rfl, rfl⟩) | exact Or.inr (Or.inr ⟨by omega, by omega, rfl, rfl⟩))
    · refine f_bipush hZ dX7_feed_25 ?_
      exact f_retI hZ hR dX7_feed_27 rfl (by omega) (by first | exact Or.inl ⟨by omega, rfl, rfl⟩ | exact Or.inr (Or.inl ⟨by omega, by omega, rfl, rfl⟩) | exact Or.inr (Or.inr ⟨by omega, by omega, rfl, rfl⟩))
  · refine f_bipush hZ dX7_feed_12 ?_
    exact f_retI hZ hR dX7_feed_14 rfl (by omega) (by first | exact Or.inl ⟨by omega, rfl, rfl⟩ | exact Or.inr (Or.inl ⟨by omega, by omega, rfl, rfl⟩) | exact Or.inr (Or.inr ⟨by omega, by omega, rfl, rfl⟩))

set_option maxRecDepth 20000 in
set_option maxHeartbeats 4000000 in
theorem t_X7_force {X : fX} {M : fM} {d : Nat} {t : Int} (hb : rg t) (ht : 1 ≤ M 59 3 ∧ M 59 3 ≤ 6) : fC X (d + 1) mX7_force [.ref (xa X 59), .int (iv t)] M (QI fun r M' => (¬ (0 ≤ t ∧ t < M 59 3) ∧ r = -2 ∧ M' = M) ∨ ((0 ≤ t ∧ t < M 59 3) ∧ r = M 59 4 ∧ M' = up M 59 4 t)) := by
  refine fC.of (L := [_, _, _]) (by decide +kernel) rfl (Nat.le_of_ble_eq_true rfl) (fun Z hZ hR => ?_)
  refine f_iload_n hZ dX7_force_0 rfl ?_
  refine f_i2l hZ dX7_force_1 (by omega) ?_
  refine f_lconst0 hZ dX7_force_2 ?_
  refine f_aload_n hZ dX7_force_3 rfl ?_
  refine gX7_107 hZ dX7_force_4 (fun r4 => ?_)
  refine f_iconst hZ dX7_force_7 ?_
  refine f_isub hZ dX7_force_8 ?_
  refine f_i2l hZ dX7_force_9 (by omega) ?_
  refine sX7_113 hZ dX7_force_10 (t_X7_in (by omega) (by omega) (by omega)) (fun a10 M10 r10 h10 => ?_)
  obtain ⟨rfl, h10⟩ := h10
  refine f_ne (tgt := 19) hZ dX7_force_13 rfl (by omega) (fun h13 => ?_) (fun h13 => ?_)
  · refine f_aload_n hZ dX7_force_19 rfl ?_
    refine gX7_269 hZ dX7_force_20 (fun r20 => ?_)
    refine f_istore_n (L' := [_, _, _]) hZ dX7_force_23 rfl rfl ?_
    refine f_aload_n hZ dX7_force_24 rfl ?_
    refine f_iload_n hZ dX7_force_25 rfl ?_
    refine pX7_269 hZ dX7_force_26 (by omega) ?_
    refine f_iload_n hZ dX7_force_29 rfl ?_
    exact f_retI hZ hR dX7_force_30 rfl (by omega) (by first | exact Or.inl ⟨by omega, rfl, rfl⟩ | exact Or.inr ⟨by omega, rfl, rfl⟩)
  · refine f_bipush hZ dX7_force_16 ?_
    exact f_retI hZ hR dX7_force_18 rfl (by omega) (by first | exact Or.inl ⟨by omega, rfl, rfl⟩ | exact Or.inr ⟨by omega, rfl, rfl⟩)

set_option maxRecDepth 20000 in
set_option maxHeartbeats 4000000 in
theorem t_X7_canLight {X : fX} {M : fM} {d : Nat} {w e : Int} (hw : 0 ≤ w ∧ w < 4) (hl : 0 ≤ M 66 w ∧ M 66 w ≤ 2) (he : 1 ≤ e ∧ e ≤ 2) : fC X d mX7_canLight [.ref (xa X 59), .int (iv w), .int (iv e)] M (QI fun r M' => M' = M ∧ bz r (0 < M 65 w ∧ M 66 w + e ≤ 2)) := by
  refine fC.of (L := [_, _, _]) (by decide +kernel) rfl (Nat.le_of_ble_eq_true rfl) (fun Z hZ hR => ?_)
  refine f_aload_n hZ dX7_canLight_0 rfl ?_
  refine gX7_29 hZ dX7_canLight_1 ?_
  refine f_iload_n hZ dX7_canLight_4 rfl ?_
  refine f_iaload hZ dX7_canLight_5 (by first | rfl | exact hC.t1 | exact hC.t2 | exact hC.t3 | exact hC.t4 | exact hC.t5) (by first | rfl | exact hC.l1 | exact hC.l2 | exact hC.l3 | exact hC.l4 | exact hC.l5) (by omega) (by omega) (fun r5 => ?_)
  refine f_le (tgt := 25) hZ dX7_canLight_6 rfl (by omega) (fun h6 => ?_) (fun h6 => ?_)
  · refine f_iconst hZ dX7_canLight_25 ?_
    exact f_retZ hZ hR dX7_canLight_26 rfl (by omega) (by exact ⟨rfl, by omega⟩)
  · refine f_aload_n hZ dX7_canLight_9 rfl ?_
    refine gX7_32 hZ dX7_canLight_10 ?_
    refine f_iload_n hZ dX7_canLight_13 rfl ?_
    refine f_iaload hZ dX7_canLight_14 (by first | rfl | exact hC.t1 | exact hC.t2 | exact hC.t3 | exact hC.t4 | exact hC.t5) (by first | rfl | exact hC.l1 | exact hC.l2 | exact hC.l3 | exact hC.l4 | exact hC.l5) (by omega) (by omega) (fun r14 => ?_)
    refine f_iload_n hZ dX7_canLight_15 rfl ?_
    refine f_iadd hZ dX7_canLight_16 ?_
    refine f_iconst hZ dX7_canLight_17 ?_
    refine f_igt (tgt := 25) hZ dX7_canLight_18 rfl (by omega) (by omega) (fun h18 => ?_) (fun h18 => ?_)
    · refine f_iconst hZ dX7_canLight_25 ?_
      exact f_retZ hZ hR dX7_canLight_26 rfl (by omega) (by exact ⟨rfl, by omega⟩)
    · refine f_iconst hZ dX7_canLight_21 ?_
      refine f_goto (tgt := 26) hZ dX7_canLight_22 rfl ?_
      exact f_retZ hZ hR dX7_canLight_26 rfl (by omega) (by exact ⟨rfl, by omega⟩)

set_option maxRecDepth 20000 in
set_option maxHeartbeats 4000000 in
theorem t_X7_light {X : fX} {M : fM} {d : Nat} {w e : Int} (hw : rg w) (he : rg e) (hW : WfM M) : fC X (d + 2) mX7_light [.ref (xa X 59), .int (iv w), .int (iv e)] M (QI fun r M' => (¬ (0 ≤ w ∧ w < M 59 12 ∧ 1 ≤ e ∧ e ≤ 2) ∧ r = -2 ∧ M' = M) ∨ ((0 ≤ w ∧ w < M 59 12 ∧ 1 ≤ e ∧ e ≤ 2) ∧ ¬ (0 < M 65 w ∧ M 66 w + e ≤ 2) ∧ r = -3 ∧ M' = M) ∨ ((0 ≤ w ∧ w < M 59 12 ∧ 1 ≤ e ∧ e ≤ 2) ∧ (0 < M 65 w ∧ M 66 w + e ≤ 2) ∧ r = M 66 w + e ∧ M' = up M 66 w (M 66 w + e))) := by
  refine fC.of (L := [_, _, _]) (by decide +kernel) rfl (Nat.le_of_ble_eq_true rfl) (fun Z hZ hR => ?_)
  obtain ⟨hn, hdm, hmo, hA⟩ := hW
  refine f_aload_n hZ dX7_light_0 rfl ?_
  refine f_iload_n hZ dX7_light_1 rfl ?_
  refine vX7_123 hZ dX7_light_2 (t_X7_isWick (by omega) hn) (fun a2 M2 r2 h2 => ?_)
  obtain ⟨rfl, h2⟩ := h2
  refine f_eq (tgt := 20) hZ dX7_light_5 rfl (by omega) (fun h5 => ?_) (fun h5 => ?_)
  · refine f_bipush hZ dX7_light_20 ?_
    exact f_retI hZ hR dX7_light_22 rfl (by omega) (by first | exact Or.inl ⟨by omega, rfl, rfl⟩ | exact Or.inr (Or.inl ⟨by omega, by omega, rfl, rfl⟩) | exact Or.inr (Or.inr ⟨by omega, by omega, rfl, rfl⟩))
  · refine f_iload_n hZ dX7_light_8 rfl ?_
    refine f_i2l hZ dX7_light_9 (by omega) ?_
    refine f_lconst1 hZ dX7_light_10 ?_
    refine f_ldc2 (v := (2 : Int64)) hZ (2) dX7_light_11 (tb_in 1018 (by decide +kernel) (by decide +kernel)) (by decide) ?_
    refine sX7_113 hZ dX7_light_14 (t_X7_in (by omega) (by omega) (by omega)) (fun a14 M14 r14 h14 => ?_)
    obtain ⟨rfl, h14⟩ := h14
    refine f_ne (tgt := 23) hZ dX7_light_17 rfl (by omega) (fun h17 => ?_) (fun h17 => ?_)
    · have hq := hA w (by omega) (by omega)
      refine f_aload_n hZ dX7_light_23 rfl ?_
      refine f_iload_n hZ dX7_light_24 rfl ?_
      refine f_iload_n hZ dX7_light_25 rfl ?_
      refine vX7_275 hZ dX7_light_26 (t_X7_canLight (by omega) (by omega) (by omega)) (fun a26 M26 r26 h26 => ?_)
      obtain ⟨rfl, h26⟩ := h26
      refine f_ne (tgt := 35) hZ dX7_light_29 rfl (by omega) (fun h29 => ?_) (fun h29 => ?_)
      · refine f_aload_n hZ dX7_light_35 rfl ?_
        refine gX7_32 hZ dX7_light_36 ?_
        refine f_iload_n hZ dX7_light_39 rfl ?_
        refine f_dup2 hZ dX7_light_40 rfl rfl ?_
        refine f_iaload hZ dX7_light_41 (by first | rfl | exact hC.t1 | exact hC.t2 | exact hC.t3 | exact hC.t4 | exact hC.t5) (by first | rfl | exact hC.l1 | exact hC.l2 | exact hC.l3 | exact hC.l4 | exact hC.l5) (by omega) (by omega) (fun r41 => ?_)
        refine f_iload_n hZ dX7_light_42 rfl ?_
        refine f_iadd hZ dX7_light_43 ?_
        refine f_iastore hZ dX7_light_44 (by first | rfl | exact hC.t1 | exact hC.t2 | exact hC.t3 | exact hC.t4 | exact hC.t5) (by first | rfl | exact hC.l1 | exact hC.l2 | exact hC.l3 | exact hC.l4 | exact hC.l5) (by omega) (by omega) (by omega) ?_
        refine f_aload_n hZ dX7_light_45 rfl ?_
        refine gX7_32 hZ dX7_light_46 ?_
        refine f_iload_n hZ dX7_light_49 rfl ?_
        refine f_iaload hZ dX7_light_50 (by first | rfl | exact hC.t1 | exact hC.t2 | exact hC.t3 | exact hC.t4 | exact hC.t5) (by first | rfl | exact hC.l1 | exact hC.l2 | exact hC.l3 | exact hC.l4 | exact hC.l5) (by omega) (by omega) (fun r50 => ?_)
        try simp only [up_app, Nat.reduceEqDiff, Nat.reduceEqDiff, Int.reduceEq, and_true, true_and, and_false, false_and, if_true, if_false, reduceIte] at r50 ⊢
        exact f_retI hZ hR dX7_light_51 rfl (by omega) (by first | exact Or.inl ⟨by omega, rfl, rfl⟩ | exact Or.inr (Or.inl ⟨by omega, by omega, rfl, rfl⟩) | exact Or.inr (Or.inr ⟨by omega, by omega, rfl, rfl⟩))
      · refine f_bipush hZ dX7_light_32 ?_
        exact f_retI hZ hR dX7_light_34 rfl (by omega) (by first | exact Or.inl ⟨by omega, rfl, rfl⟩ | exact Or.inr (Or.inl ⟨by omega, by omega, rfl, rfl⟩) | exact Or.inr (Or.inr ⟨by omega, by omega, rfl, rfl⟩))
    · refine f_bipush hZ dX7_light_20 ?_
      exact f_retI hZ hR dX7_light_22 rfl (by omega) (by first | exact Or.inl ⟨by omega, rfl, rfl⟩ | exact Or.inr (Or.inl ⟨by omega, by omega, rfl, rfl⟩) | exact Or.inr (Or.inr ⟨by omega, by omega, rfl, rfl⟩))

