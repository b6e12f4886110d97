/-! the constructor of the reference -/
theorem mY_can : Can mY := by
  unfold mY mW mV mU mT
  repeat (first | exact zM_can | refine Can_up ?_ (by omega))
section Sp
variable {X : fX} {M : fM}
set_option maxRecDepth 20000 in
set_option maxHeartbeats 4000000 in
theorem t_X7_spell {d : Nat} {p a0 a1 a2 a3 a4 a5 a6 a7 : Int} (h0 : 0 ≤ p) (h1 : p + 7 < 960) (r0 : rg a0) (r1 : rg a1) (r2 : rg a2) (r3 : rg a3) (r4 : rg a4) (r5 : rg a5) (r6 : rg a6) (r7 : rg a7) : fC X d mX7_spell [.ref (xa X 59), .int (iv p), .int (iv a0), .int (iv a1), .int (iv a2), .int (iv a3), .int (iv a4), .int (iv a5), .int (iv a6), .int (iv a7)] M (QV fun K => K = sp8 M p a0 a1 a2 a3 a4 a5 a6 a7) := by
  refine fC.of (L := [_, _, _, _, _, _, _, _, _, _]) (by decide +kernel) rfl (Nat.le_of_ble_eq_true rfl) (fun Z hZ hR => ?_)
  refine f_aload_n hZ dX7_spell_0 rfl ?_
  refine gX7_13 hZ dX7_spell_1 ?_
  refine f_iload_n hZ dX7_spell_4 rfl ?_
  refine f_iload_n hZ dX7_spell_5 rfl ?_
  refine f_iastore hZ dX7_spell_6 (by first | rfl | exact hC.t1 | exact hC.t2 | exact hC.t3 | exact hC.t4 | exact hC.t5) (by first | rfl | exact hC.l1 | exact hC.l2 | exact hC.l3 | exact hC.l4 | exact hC.l5) (by omega) (by omega) (by omega) ?_
  refine f_aload_n hZ dX7_spell_7 rfl ?_
  refine gX7_13 hZ dX7_spell_8 ?_
  refine f_iload_n hZ dX7_spell_11 rfl ?_
  refine f_iconst hZ dX7_spell_12 ?_
  refine f_iadd hZ dX7_spell_13 ?_
  refine f_iload_n hZ dX7_spell_14 rfl ?_
  refine f_iastore hZ dX7_spell_15 (by first | rfl | exact hC.t1 | exact hC.t2 | exact hC.t3 | exact hC.t4 | exact hC.t5) (by first | rfl | exact hC.l1 | exact hC.l2 | exact hC.l3 | exact hC.l4 | exact hC.l5) (by omega) (by omega) (by omega) ?_
  refine f_aload_n hZ dX7_spell_16 rfl ?_
  refine gX7_13 hZ dX7_spell_17 ?_
  refine f_iload_n hZ dX7_spell_20 rfl ?_
  refine f_iconst hZ dX7_spell_21 ?_
  refine f_iadd hZ dX7_spell_22 ?_
  refine f_iload hZ dX7_spell_23 rfl ?_
  refine f_iastore hZ dX7_spell_25 (by first | rfl | exact hC.t1 | exact hC.t2 | exact hC.t3 | exact hC.t4 | exact hC.t5) (by first | rfl | exact hC.l1 | exact hC.l2 | exact hC.l3 | exact hC.l4 | exact hC.l5) (by omega) (by omega) (by omega) ?_
  refine f_aload_n hZ dX7_spell_26 rfl ?_
  refine gX7_13 hZ dX7_spell_27 ?_
  refine f_iload_n hZ dX7_spell_30 rfl ?_
  refine f_iconst hZ dX7_spell_31 ?_
  refine f_iadd hZ dX7_spell_32 ?_
  refine f_iload hZ dX7_spell_33 rfl ?_
  refine f_iastore hZ dX7_spell_35 (by first | rfl | exact hC.t1 | exact hC.t2 | exact hC.t3 | exact hC.t4 | exact hC.t5) (by first | rfl | exact hC.l1 | exact hC.l2 | exact hC.l3 | exact hC.l4 | exact hC.l5) (by omega) (by omega) (by omega) ?_
  refine f_aload_n hZ dX7_spell_36 rfl ?_
  refine gX7_13 hZ dX7_spell_37 ?_
  refine f_iload_n hZ dX7_spell_40 rfl ?_
  refine f_iconst hZ dX7_spell_41 ?_
  refine f_iadd hZ dX7_spell_42 ?_
  refine f_iload hZ dX7_spell_43 rfl ?_
  refine f_iastore hZ dX7_spell_45 (by first | rfl | exact hC.t1 | exact hC.t2 | exact hC.t3 | exact hC.t4 | exact hC.t5) (by first | rfl | exact hC.l1 | exact hC.l2 | exact hC.l3 | exact hC.l4 | exact hC.l5) (by omega) (by omega) (by omega) ?_
  refine f_aload_n hZ dX7_spell_46 rfl ?_
  refine gX7_13 hZ dX7_spell_47 ?_
  refine f_iload_n hZ dX7_spell_50 rfl ?_
  refine f_iconst hZ dX7_spell_51 ?_
  refine f_iadd hZ dX7_spell_52 ?_
  refine f_iload hZ dX7_spell_53 rfl ?_
  refine f_iastore hZ dX7_spell_55 (by first | rfl | exact hC.t1 | exact hC.t2 | exact hC.t3 | exact hC.t4 | exact hC.t5) (by first | rfl | exact hC.l1 | exact hC.l2 | exact hC.l3 | exact hC.l4 | exact hC.l5) (by omega) (by omega) (by omega) ?_
  refine f_aload_n hZ dX7_spell_56 rfl ?_
  refine gX7_13 hZ dX7_spell_57 ?_
  refine f_iload_n hZ dX7_spell_60 rfl ?_
  refine f_bipush hZ dX7_spell_61 ?_
  refine f_iadd hZ dX7_spell_63 ?_
  refine f_iload hZ dX7_spell_64 rfl ?_
  refine f_iastore hZ dX7_spell_66 (by first | rfl | exact hC.t1 | exact hC.t2 | exact hC.t3 | exact hC.t4 | exact hC.t5) (by first | rfl | exact hC.l1 | exact hC.l2 | exact hC.l3 | exact hC.l4 | exact hC.l5) (by omega) (by omega) (by omega) ?_
  refine f_aload_n hZ dX7_spell_67 rfl ?_
  refine gX7_13 hZ dX7_spell_68 ?_
  refine f_iload_n hZ dX7_spell_71 rfl ?_
  refine f_bipush hZ dX7_spell_72 ?_
  refine f_iadd hZ dX7_spell_74 ?_
  refine f_iload hZ dX7_spell_75 rfl ?_
  refine f_iastore hZ dX7_spell_77 (by first | rfl | exact hC.t1 | exact hC.t2 | exact hC.t3 | exact hC.t4 | exact hC.t5) (by first | rfl | exact hC.l1 | exact hC.l2 | exact hC.l3 | exact hC.l4 | exact hC.l5) (by omega) (by omega) (by omega) ?_
  exact f_retV hZ hR dX7_spell_78 rfl (by exact rfl)
end Sp
set_option maxRecDepth 20000 in
set_option maxHeartbeats 4000000 in
theorem k_X7 {X : fX} {bs d : Nat} (hx : ∀ c, xa X c = bs + c) : gC X bs (d + 2) mX7_init [.ref (xa X 59)] gl_16 mW (gQ7 X bs M0) 28 324642 := by
  refine gC.of (L := [_]) hx (by decide +kernel) rfl (Nat.le_of_ble_eq_true rfl) (fun Z hZ hR => ?_)
  refine g_aload_n hZ dX7_init_0 rfl ?_
  refine g_obj hZ dX7_init_1 (tb_in 810 (by decide +kernel) (by decide +kernel)) (Nat.le_of_ble_eq_true rfl) ?_
  refine g_aload_n hZ dX7_init_4 rfl ?_
  refine g_sipush hZ dX7_init_5 ?_
  refine g_newI (N := 960) (z := 60) hZ rfl dX7_init_8 (Nat.le_of_ble_eq_true rfl) (Nat.le_of_ble_eq_true rfl) (Nat.le_of_ble_eq_true rfl) (by decide +kernel) (fun i => by simp [mY, mW, mV, mU, mT, zM, up]) ?_
  refine g_putF (c := 59) (ci := 6) (kf := 1) (t := 60) (fs := [(0, 0, 0), (1, 4, 0), (2, 4, 0), (3, 0, 0), (4, 0, 0), (5, 4, 0), (6, 0, 0), (7, 4, 0), (8, 4, 0), (9, 4, 0), (10, 4, 0), (11, 4, 0), (12, 0, 0), (13, 0, 0), (14, 0, 0), (15, 0, 0), (16, 0, 0), (17, 0, 0), (18, 0, 0), (19, 0, 0), (20, 0, 0), (21, 0, 0), (22, 0, 0), (23, 0, 0), (24, 0, 0), (25, 0, 0), (26, 2, 0), (27, 0, 0), (28, 0, 0), (29, 0, 0), (30, 4, 0), (31, 4, 0), (32, 4, 0), (33, 4, 0), (34, 4, 0), (35, 0, 0), (36, 0, 0), (37, 0, 0), (38, 4, 0), (39, 4, 0), (40, 4, 0), (41, 4, 0), (42, 0, 0), (43, 0, 0), (44, 0, 0), (45, 4, 0), (46, 4, 0), (47, 4, 0), (48, 4, 0), (49, 4, 0), (50, 4, 0), (51, 0, 0), (52, 4, 0), (53, 0, 0), (54, 0, 0), (55, 0, 0), (56, 0, 0), (57, 4, 0), (58, 4, 0), (59, 4, 0), (60, 4, 0)]) hZ tyX7 tyX7_ok nmX7 dX7_init_10 rfl (by decide) iw_X7 wf_X7_13 rfl rfl hR.2.2.2 rfl ⟨rfl, rfl⟩ (by decide +kernel) (Nat.le_of_ble_eq_true rfl) ?_
  refine g_aload_n hZ dX7_init_13 rfl ?_
  refine g_bipush hZ dX7_init_14 ?_
  refine g_newI (N := 6) (z := 61) hZ rfl dX7_init_16 (Nat.le_of_ble_eq_true rfl) (Nat.le_of_ble_eq_true rfl) (Nat.le_of_ble_eq_true rfl) (by decide +kernel) (fun i => by simp [mY, mW, mV, mU, mT, zM, up]) ?_
  refine g_putF (c := 59) (ci := 6) (kf := 2) (t := 61) (fs := [(0, 0, 0), (1, 1, 60), (2, 4, 0), (3, 0, 0), (4, 0, 0), (5, 4, 0), (6, 0, 0), (7, 4, 0), (8, 4, 0), (9, 4, 0), (10, 4, 0), (11, 4, 0), (12, 0, 0), (13, 0, 0), (14, 0, 0), (15, 0, 0), (16, 0, 0), (17, 0, 0), (18, 0, 0), (19, 0, 0), (20, 0, 0), (21, 0, 0), (22, 0, 0), (23, 0, 0), (24, 0, 0), (25, 0, 0), (26, 2, 0), (27, 0, 0), (28, 0, 0), (29, 0, 0), (30, 4, 0), (31, 4, 0), (32, 4, 0), (33, 4, 0), (34, 4, 0), (35, 0, 0), (36, 0, 0), (37, 0, 0), (38, 4, 0), (39, 4, 0), (40, 4, 0), (41, 4, 0), (42, 0, 0), (43, 0, 0), (44, 0, 0), (45, 4, 0), (46, 4, 0), (47, 4, 0), (48, 4, 0), (49, 4, 0), (50, 4, 0), (51, 0, 0), (52, 4, 0), (53, 0, 0), (54, 0, 0), (55, 0, 0), (56, 0, 0), (57, 4, 0), (58, 4, 0), (59, 4, 0), (60, 4, 0)]) hZ tyX7 tyX7_ok nmX7 dX7_init_18 rfl (by decide) iw_X7 wf_X7_17 rfl rfl hR.2.2.2 rfl ⟨rfl, rfl⟩ (by decide +kernel) (Nat.le_of_ble_eq_true rfl) ?_
  refine g_aload_n hZ dX7_init_21 rfl ?_
  refine g_sipush hZ dX7_init_22 ?_
  refine g_newI (N := 160) (z := 62) hZ rfl dX7_init_25 (Nat.le_of_ble_eq_true rfl) (Nat.le_of_ble_eq_true rfl) (Nat.le_of_ble_eq_true rfl) (by decide +kernel) (fun i => by simp [mY, mW, mV, mU, mT, zM, up]) ?_
  refine g_putF (c := 59) (ci := 6) (kf := 5) (t := 62) (fs := [(0, 0, 0), (1, 1, 60), (2, 1, 61), (3, 0, 0), (4, 0, 0), (5, 4, 0), (6, 0, 0), (7, 4, 0), (8, 4, 0), (9, 4, 0), (10, 4, 0), (11, 4, 0), (12, 0, 0), (13, 0, 0), (14, 0, 0), (15, 0, 0), (16, 0, 0), (17, 0, 0), (18, 0, 0), (19, 0, 0), (20, 0, 0), (21, 0, 0), (22, 0, 0), (23, 0, 0), (24, 0, 0), (25, 0, 0), (26, 2, 0), (27, 0, 0), (28, 0, 0), (29, 0, 0), (30, 4, 0), (31, 4, 0), (32, 4, 0), (33, 4, 0), (34, 4, 0), (35, 0, 0), (36, 0, 0), (37, 0, 0), (38, 4, 0), (39, 4, 0), (40, 4, 0), (41, 4, 0), (42, 0, 0), (43, 0, 0), (44, 0, 0), (45, 4, 0), (46, 4, 0), (47, 4, 0), (48, 4, 0), (49, 4, 0), (50, 4, 0), (51, 0, 0), (52, 4, 0), (53, 0, 0), (54, 0, 0), (55, 0, 0), (56, 0, 0), (57, 4, 0), (58, 4, 0), (59, 4, 0), (60, 4, 0)]) hZ tyX7 tyX7_ok nmX7 dX7_init_27 rfl (by decide) iw_X7 wf_X7_20 rfl rfl hR.2.2.2 rfl ⟨rfl, rfl⟩ (by decide +kernel) (Nat.le_of_ble_eq_true rfl) ?_
  refine g_aload_n hZ dX7_init_30 rfl ?_
  refine g_iconst hZ dX7_init_31 ?_
  refine g_newI (N := 4) (z := 63) hZ rfl dX7_init_32 (Nat.le_of_ble_eq_true rfl) (Nat.le_of_ble_eq_true rfl) (Nat.le_of_ble_eq_true rfl) (by decide +kernel) (fun i => by simp [mY, mW, mV, mU, mT, zM, up]) ?_
  refine g_putF (c := 59) (ci := 6) (kf := 7) (t := 63) (fs := [(0, 0, 0), (1, 1, 60), (2, 1, 61), (3, 0, 0), (4, 0, 0), (5, 1, 62), (6, 0, 0), (7, 4, 0), (8, 4, 0), (9, 4, 0), (10, 4, 0), (11, 4, 0), (12, 0, 0), (13, 0, 0), (14, 0, 0), (15, 0, 0), (16, 0, 0), (17, 0, 0), (18, 0, 0), (19, 0, 0), (20, 0, 0), (21, 0, 0), (22, 0, 0), (23, 0, 0), (24, 0, 0), (25, 0, 0), (26, 2, 0), (27, 0, 0), (28, 0, 0), (29, 0, 0), (30, 4, 0), (31, 4, 0), (32, 4, 0), (33, 4, 0), (34, 4, 0), (35, 0, 0), (36, 0, 0), (37, 0, 0), (38, 4, 0), (39, 4, 0), (40, 4, 0), (41, 4, 0), (42, 0, 0), (43, 0, 0), (44, 0, 0), (45, 4, 0), (46, 4, 0), (47, 4, 0), (48, 4, 0), (49, 4, 0), (50, 4, 0), (51, 0, 0), (52, 4, 0), (53, 0, 0), (54, 0, 0), (55, 0, 0), (56, 0, 0), (57, 4, 0), (58, 4, 0), (59, 4, 0), (60, 4, 0)]) hZ tyX7 tyX7_ok nmX7 dX7_init_34 rfl (by decide) iw_X7 wf_X7_23 rfl rfl hR.2.2.2 rfl ⟨rfl, rfl⟩ (by decide +kernel) (Nat.le_of_ble_eq_true rfl) ?_
  refine g_aload_n hZ dX7_init_37 rfl ?_
  refine g_iconst hZ dX7_init_38 ?_
  refine g_newI (N := 4) (z := 64) hZ rfl dX7_init_39 (Nat.le_of_ble_eq_true rfl) (Nat.le_of_ble_eq_true rfl) (Nat.le_of_ble_eq_true rfl) (by decide +kernel) (fun i => by simp [mY, mW, mV, mU, mT, zM, up]) ?_
  refine g_putF (c := 59) (ci := 6) (kf := 8) (t := 64) (fs := [(0, 0, 0), (1, 1, 60), (2, 1, 61), (3, 0, 0), (4, 0, 0), (5, 1, 62), (6, 0, 0), (7, 1, 63), (8, 4, 0), (9, 4, 0), (10, 4, 0), (11, 4, 0), (12, 0, 0), (13, 0, 0), (14, 0, 0), (15, 0, 0), (16, 0, 0), (17, 0, 0), (18, 0, 0), (19, 0, 0), (20, 0, 0), (21, 0, 0), (22, 0, 0), (23, 0, 0), (24, 0, 0), (25, 0, 0), (26, 2, 0), (27, 0, 0), (28, 0, 0), (29, 0, 0), (30, 4, 0), (31, 4, 0), (32, 4, 0), (33, 4, 0), (34, 4, 0), (35, 0, 0), (36, 0, 0), (37, 0, 0), (38, 4, 0), (39, 4, 0), (40, 4, 0), (41, 4, 0), (42, 0, 0), (43, 0, 0), (44, 0, 0), (45, 4, 0), (46, 4, 0), (47, 4, 0), (48, 4, 0), (49, 4, 0), (50, 4, 0), (51, 0, 0), (52, 4, 0), (53, 0, 0), (54, 0, 0), (55, 0, 0), (56, 0, 0), (57, 4, 0), (58, 4, 0), (59, 4, 0), (60, 4, 0)]) hZ tyX7 tyX7_ok nmX7 dX7_init_41 rfl (by decide) iw_X7 wf_X7_26 rfl rfl hR.2.2.2 rfl ⟨rfl, rfl⟩ (by decide +kernel) (Nat.le_of_ble_eq_true rfl) ?_
  refine g_aload_n hZ dX7_init_44 rfl ?_
  refine g_iconst hZ dX7_init_45 ?_
  refine g_newI (N := 4) (z := 65) hZ rfl dX7_init_46 (Nat.le_of_ble_eq_true rfl) (Nat.le_of_ble_eq_true rfl) (Nat.le_of_ble_eq_true rfl) (by decide +kernel) (fun i => by simp [mY, mW, mV, mU, mT, zM, up]) ?_
  refine g_putF (c := 59) (ci := 6) (kf := 9) (t := 65) (fs := [(0, 0, 0), (1, 1, 60), (2, 1, 61), (3, 0, 0), (4, 0, 0), (5, 1, 62), (6, 0, 0), (7, 1, 63), (8, 1, 64), (9, 4, 0), (10, 4, 0), (11, 4, 0), (12, 0, 0), (13, 0, 0), (14, 0, 0), (15, 0, 0), (16, 0, 0), (17, 0, 0), (18, 0, 0), (19, 0, 0), (20, 0, 0), (21, 0, 0), (22, 0, 0), (23, 0, 0), (24, 0, 0), (25, 0, 0), (26, 2, 0), (27, 0, 0), (28, 0, 0), (29, 0, 0), (30, 4, 0), (31, 4, 0), (32, 4, 0), (33, 4, 0), (34, 4, 0), (35, 0, 0), (36, 0, 0), (37, 0, 0), (38, 4, 0), (39, 4, 0), (40, 4, 0), (41, 4, 0), (42, 0, 0), (43, 0, 0), (44, 0, 0), (45, 4, 0), (46, 4, 0), (47, 4, 0), (48, 4, 0), (49, 4, 0), (50, 4, 0), (51, 0, 0), (52, 4, 0), (53, 0, 0), (54, 0, 0), (55, 0, 0), (56, 0, 0), (57, 4, 0), (58, 4, 0), (59, 4, 0), (60, 4, 0)]) hZ tyX7 tyX7_ok nmX7 dX7_init_48 rfl (by decide) iw_X7 wf_X7_29 rfl rfl hR.2.2.2 rfl ⟨rfl, rfl⟩ (by decide +kernel) (Nat.le_of_ble_eq_true rfl) ?_
  refine g_aload_n hZ dX7_init_51 rfl ?_
  refine g_iconst hZ dX7_init_52 ?_
  refine g_newI (N := 4) (z := 66) hZ rfl dX7_init_53 (Nat.le_of_ble_eq_true rfl) (Nat.le_of_ble_eq_true rfl) (Nat.le_of_ble_eq_true rfl) (by decide +kernel) (fun i => by simp [mY, mW, mV, mU, mT, zM, up]) ?_
  refine g_putF (c := 59) (ci := 6) (kf := 10) (t := 66) (fs := [(0, 0, 0), (1, 1, 60), (2, 1, 61), (3, 0, 0), (4, 0, 0), (5, 1, 62), (6, 0, 0), (7, 1, 63), (8, 1, 64), (9, 1, 65), (10, 4, 0), (11, 4, 0), (12, 0, 0), (13, 0, 0), (14, 0, 0), (15, 0, 0), (16, 0, 0), (17, 0, 0), (18, 0, 0), (19, 0, 0), (20, 0, 0), (21, 0, 0), (22, 0, 0), (23, 0, 0), (24, 0, 0), (25, 0, 0), (26, 2, 0), (27, 0, 0), (28, 0, 0), (29, 0, 0), (30, 4, 0), (31, 4, 0), (32, 4, 0), (33, 4, 0), (34, 4, 0), (35, 0, 0), (36, 0, 0), (37, 0, 0), (38, 4, 0), (39, 4, 0), (40, 4, 0), (41, 4, 0), (42, 0, 0), (43, 0, 0), (44, 0, 0), (45, 4, 0), (46, 4, 0), (47, 4, 0), (48, 4, 0), (49, 4, 0), (50, 4, 0), (51, 0, 0), (52, 4, 0), (53, 0, 0), (54, 0, 0), (55, 0, 0), (56, 0, 0), (57, 4, 0), (58, 4, 0), (59, 4, 0), (60, 4, 0)]) hZ tyX7 tyX7_ok nmX7 dX7_init_55 rfl (by decide) iw_X7 wf_X7_32 rfl rfl hR.2.2.2 rfl ⟨rfl, rfl⟩ (by decide +kernel) (Nat.le_of_ble_eq_true rfl) ?_
  refine g_aload_n hZ dX7_init_58 rfl ?_
  refine g_iconst hZ dX7_init_59 ?_
  refine g_newI (N := 4) (z := 67) hZ rfl dX7_init_60 (Nat.le_of_ble_eq_true rfl) (Nat.le_of_ble_eq_true rfl) (Nat.le_of_ble_eq_true rfl) (by decide +kernel) (fun i => by simp [mY, mW, mV, mU, mT, zM, up]) ?_
  refine g_putF (c := 59) (ci := 6) (kf := 11) (t := 67) (fs := [(0, 0, 0), (1, 1, 60), (2, 1, 61), (3, 0, 0), (4, 0, 0), (5, 1, 62), (6, 0, 0), (7, 1, 63), (8, 1, 64), (9, 1, 65), (10, 1, 66), (11, 4, 0), (12, 0, 0), (13, 0, 0), (14, 0, 0), (15, 0, 0), (16, 0, 0), (17, 0, 0), (18, 0, 0), (19, 0, 0), (20, 0, 0), (21, 0, 0), (22, 0, 0), (23, 0, 0), (24, 0, 0), (25, 0, 0), (26, 2, 0), (27, 0, 0), (28, 0, 0), (29, 0, 0), (30, 4, 0), (31, 4, 0), (32, 4, 0), (33, 4, 0), (34, 4, 0), (35, 0, 0), (36, 0, 0), (37, 0, 0), (38, 4, 0), (39, 4, 0), (40, 4, 0), (41, 4, 0), (42, 0, 0), (43, 0, 0), (44, 0, 0), (45, 4, 0), (46, 4, 0), (47, 4, 0), (48, 4, 0), (49, 4, 0), (50, 4, 0), (51, 0, 0), (52, 4, 0), (53, 0, 0), (54, 0, 0), (55, 0, 0), (56, 0, 0), (57, 4, 0), (58, 4, 0), (59, 4, 0), (60, 4, 0)]) hZ tyX7 tyX7_ok nmX7 dX7_init_62 rfl (by decide) iw_X7 wf_X7_35 rfl rfl hR.2.2.2 rfl ⟨rfl, rfl⟩ (by decide +kernel) (Nat.le_of_ble_eq_true rfl) ?_
  refine g_aload_n hZ dX7_init_65 rfl ?_
  refine g_bipush hZ dX7_init_66 ?_
  refine g_newI (N := 24) (z := 68) hZ rfl dX7_init_68 (Nat.le_of_ble_eq_true rfl) (Nat.le_of_ble_eq_true rfl) (Nat.le_of_ble_eq_true rfl) (by decide +kernel) (fun i => by simp [mY, mW, mV, mU, mT, zM, up]) ?_
  refine g_putF (c := 59) (ci := 6) (kf := 30) (t := 68) (fs := [(0, 0, 0), (1, 1, 60), (2, 1, 61), (3, 0, 0), (4, 0, 0), (5, 1, 62), (6, 0, 0), (7, 1, 63), (8, 1, 64), (9, 1, 65), (10, 1, 66), (11, 1, 67), (12, 0, 0), (13, 0, 0), (14, 0, 0), (15, 0, 0), (16, 0, 0), (17, 0, 0), (18, 0, 0), (19, 0, 0), (20, 0, 0), (21, 0, 0), (22, 0, 0), (23, 0, 0), (24, 0, 0), (25, 0, 0), (26, 2, 0), (27, 0, 0), (28, 0, 0), (29, 0, 0), (30, 4, 0), (31, 4, 0), (32, 4, 0), (33, 4, 0), (34, 4, 0), (35, 0, 0), (36, 0, 0), (37, 0, 0), (38, 4, 0), (39, 4, 0), (40, 4, 0), (41, 4, 0), (42, 0, 0), (43, 0, 0), (44, 0, 0), (45, 4, 0), (46, 4, 0), (47, 4, 0), (48, 4, 0), (49, 4, 0), (50, 4, 0), (51, 0, 0), (52, 4, 0), (53, 0, 0), (54, 0, 0), (55, 0, 0), (56, 0, 0), (57, 4, 0), (58, 4, 0), (59, 4, 0), (60, 4, 0)]) hZ tyX7 tyX7_ok nmX7 dX7_init_70 rfl (by decide) iw_X7 wf_X7_38 rfl rfl hR.2.2.2 rfl ⟨rfl, rfl⟩ (by decide +kernel) (Nat.le_of_ble_eq_true rfl) ?_
  refine g_aload_n hZ dX7_init_73 rfl ?_
  refine g_bipush hZ dX7_init_74 ?_
  refine g_newI (N := 24) (z := 69) hZ rfl dX7_init_76 (Nat.le_of_ble_eq_true rfl) (Nat.le_of_ble_eq_true rfl) (Nat.le_of_ble_eq_true rfl) (by decide +kernel) (fun i => by simp [mY, mW, mV, mU, mT, zM, up]) ?_
  refine g_putF (c := 59) (ci := 6) (kf := 31) (t := 69) (fs := [(0, 0, 0), (1, 1, 60), (2, 1, 61), (3, 0, 0), (4, 0, 0), (5, 1, 62), (6, 0, 0), (7, 1, 63), (8, 1, 64), (9, 1, 65), (10, 1, 66), (11, 1, 67), (12, 0, 0), (13, 0, 0), (14, 0, 0), (15, 0, 0), (16, 0, 0), (17, 0, 0), (18, 0, 0), (19, 0, 0), (20, 0, 0), (21, 0, 0), (22, 0, 0), (23, 0, 0), (24, 0, 0), (25, 0, 0), (26, 2, 0), (27, 0, 0), (28, 0, 0), (29, 0, 0), (30, 1, 68), (31, 4, 0), (32, 4, 0), (33, 4, 0), (34, 4, 0), (35, 0, 0), (36, 0, 0), (37, 0, 0), (38, 4, 0), (39, 4, 0), (40, 4, 0), (41, 4, 0), (42, 0, 0), (43, 0, 0), (44, 0, 0), (45, 4, 0), (46, 4, 0), (47, 4, 0), (48, 4, 0), (49, 4, 0), (50, 4, 0), (51, 0, 0), (52, 4, 0), (53, 0, 0), (54, 0, 0), (55, 0, 0), (56, 0, 0), (57, 4, 0), (58, 4, 0), (59, 4, 0), (60, 4, 0)]) hZ tyX7 tyX7_ok nmX7 dX7_init_78 rfl (by decide) iw_X7 wf_X7_41 rfl rfl hR.2.2.2 rfl ⟨rfl, rfl⟩ (by decide +kernel) (Nat.le_of_ble_eq_true rfl) ?_
  refine g_aload_n hZ dX7_init_81 rfl ?_
  refine g_bipush hZ dX7_init_82 ?_
  refine g_newI (N := 6) (z := 70) hZ rfl dX7_init_84 (Nat.le_of_ble_eq_true rfl) (Nat.le_of_ble_eq_true rfl) (Nat.le_of_ble_eq_true rfl) (by decide +kernel) (fun i => by simp [mY, mW, mV, mU, mT, zM, up]) ?_
  refine g_putF (c := 59) (ci := 6) (kf := 32) (t := 70) (fs := [(0, 0, 0), (1, 1, 60), (2, 1, 61), (3, 0, 0), (4, 0, 0), (5, 1, 62), (6, 0, 0), (7, 1, 63), (8, 1, 64), (9, 1, 65), (10, 1, 66), (11, 1, 67), (12, 0, 0), (13, 0, 0), (14, 0, 0), (15, 0, 0), (16, 0, 0), (17, 0, 0), (18, 0, 0), (19, 0, 0), (20, 0, 0), (21, 0, 0), (22, 0, 0), (23, 0, 0), (24, 0, 0), (25, 0, 0), (26, 2, 0), (27, 0, 0), (28, 0, 0), (29, 0, 0), (30, 1, 68), (31, 1, 69), (32, 4, 0), (33, 4, 0), (34, 4, 0), (35, 0, 0), (36, 0, 0), (37, 0, 0), (38, 4, 0), (39, 4, 0), (40, 4, 0), (41, 4, 0), (42, 0, 0), (43, 0, 0), (44, 0, 0), (45, 4, 0), (46, 4, 0), (47, 4, 0), (48, 4, 0), (49, 4, 0), (50, 4, 0), (51, 0, 0), (52, 4, 0), (53, 0, 0), (54, 0, 0), (55, 0, 0), (56, 0, 0), (57, 4, 0), (58, 4, 0), (59, 4, 0), (60, 4, 0)]) hZ tyX7 tyX7_ok nmX7 dX7_init_86 rfl (by decide) iw_X7 wf_X7_44 rfl rfl hR.2.2.2 rfl ⟨rfl, rfl⟩ (by decide +kernel) (Nat.le_of_ble_eq_true rfl) ?_
  refine g_aload_n hZ dX7_init_89 rfl ?_
  refine g_bipush hZ dX7_init_90 ?_
  refine g_newI (N := 6) (z := 71) hZ rfl dX7_init_92 (Nat.le_of_ble_eq_true rfl) (Nat.le_of_ble_eq_true rfl) (Nat.le_of_ble_eq_true rfl) (by decide +kernel) (fun i => by simp [mY, mW, mV, mU, mT, zM, up]) ?_
  refine g_putF (c := 59) (ci := 6) (kf := 33) (t := 71) (fs := [(0, 0, 0), (1, 1, 60), (2, 1, 61), (3, 0, 0), (4, 0, 0), (5, 1, 62), (6, 0, 0), (7, 1, 63), (8, 1, 64), (9, 1, 65), (10, 1, 66), (11, 1, 67), (12, 0, 0), (13, 0, 0), (14, 0, 0), (15, 0, 0), (16, 0, 0), (17, 0, 0), (18, 0, 0), (19, 0, 0), (20, 0, 0), (21, 0, 0), (22, 0, 0), (23, 0, 0), (24, 0, 0), (25, 0, 0), (26, 2, 0), (27, 0, 0), (28, 0, 0), (29, 0, 0), (30, 1, 68), (31, 1, 69), (32, 1, 70), (33, 4, 0), (34, 4, 0), (35, 0, 0), (36, 0, 0), (37, 0, 0), (38, 4, 0), (39, 4, 0), (40, 4, 0), (41, 4, 0), (42, 0, 0), (43, 0, 0), (44, 0, 0), (45, 4, 0), (46, 4, 0), (47, 4, 0), (48, 4, 0), (49, 4, 0), (50, 4, 0), (51, 0, 0), (52, 4, 0), (53, 0, 0), (54, 0, 0), (55, 0, 0), (56, 0, 0), (57, 4, 0), (58, 4, 0), (59, 4, 0), (60, 4, 0)]) hZ tyX7 tyX7_ok nmX7 dX7_init_94 rfl (by decide) iw_X7 wf_X7_47 rfl rfl hR.2.2.2 rfl ⟨rfl, rfl⟩ (by decide +kernel) (Nat.le_of_ble_eq_true rfl) ?_
  refine g_aload_n hZ dX7_init_97 rfl ?_
  refine g_bipush hZ dX7_init_98 ?_
  refine g_newI (N := 6) (z := 72) hZ rfl dX7_init_100 (Nat.le_of_ble_eq_true rfl) (Nat.le_of_ble_eq_true rfl) (Nat.le_of_ble_eq_true rfl) (by decide +kernel) (fun i => by simp [mY, mW, mV, mU, mT, zM, up]) ?_
  refine g_putF (c := 59) (ci := 6) (kf := 34) (t := 72) (fs := [(0, 0, 0), (1, 1, 60), (2, 1, 61), (3, 0, 0), (4, 0, 0), (5, 1, 62), (6, 0, 0), (7, 1, 63), (8, 1, 64), (9, 1, 65), (10, 1, 66), (11, 1, 67), (12, 0, 0), (13, 0, 0), (14, 0, 0), (15, 0, 0), (16, 0, 0), (17, 0, 0), (18, 0, 0), (19, 0, 0), (20, 0, 0), (21, 0, 0), (22, 0, 0), (23, 0, 0), (24, 0, 0), (25, 0, 0), (26, 2, 0), (27, 0, 0), (28, 0, 0), (29, 0, 0), (30, 1, 68), (31, 1, 69), (32, 1, 70), (33, 1, 71), (34, 4, 0), (35, 0, 0), (36, 0, 0), (37, 0, 0), (38, 4, 0), (39, 4, 0), (40, 4, 0), (41, 4, 0), (42, 0, 0), (43, 0, 0), (44, 0, 0), (45, 4, 0), (46, 4, 0), (47, 4, 0), (48, 4, 0), (49, 4, 0), (50, 4, 0), (51, 0, 0), (52, 4, 0), (53, 0, 0), (54, 0, 0), (55, 0, 0), (56, 0, 0), (57, 4, 0), (58, 4, 0), (59, 4, 0), (60, 4, 0)]) hZ tyX7 tyX7_ok nmX7 dX7_init_102 rfl (by decide) iw_X7 wf_X7_50 rfl rfl hR.2.2.2 rfl ⟨rfl, rfl⟩ (by decide +kernel) (Nat.le_of_ble_eq_true rfl) ?_
  refine g_aload_n hZ dX7_init_105 rfl ?_
  refine g_sipush hZ dX7_init_106 ?_
  refine g_newI (N := 401) (z := 73) hZ rfl dX7_init_109 (Nat.le_of_ble_eq_true rfl) (Nat.le_of_ble_eq_true rfl) (Nat.le_of_ble_eq_true rfl) (by decide +kernel) (fun i => by simp [mY, mW, mV, mU, mT, zM, up]) ?_
  refine g_putF (c := 59) (ci := 6) (kf := 38) (t := 73) (fs := [(0, 0, 0), (1, 1, 60), (2, 1, 61), (3, 0, 0), (4, 0, 0), (5, 1, 62), (6, 0, 0), (7, 1, 63), (8, 1, 64), (9, 1, 65), (10, 1, 66), (11, 1, 67), (12, 0, 0), (13, 0, 0), (14, 0, 0), (15, 0, 0), (16, 0, 0), (17, 0, 0), (18, 0, 0), (19, 0, 0), (20, 0, 0), (21, 0, 0), (22, 0, 0), (23, 0, 0), (24, 0, 0), (25, 0, 0), (26, 2, 0), (27, 0, 0), (28, 0, 0), (29, 0, 0), (30, 1, 68), (31, 1, 69), (32, 1, 70), (33, 1, 71), (34, 1, 72), (35, 0, 0), (36, 0, 0), (37, 0, 0), (38, 4, 0), (39, 4, 0), (40, 4, 0), (41, 4, 0), (42, 0, 0), (43, 0, 0), (44, 0, 0), (45, 4, 0), (46, 4, 0), (47, 4, 0), (48, 4, 0), (49, 4, 0), (50, 4, 0), (51, 0, 0), (52, 4, 0), (53, 0, 0), (54, 0, 0), (55, 0, 0), (56, 0, 0), (57, 4, 0), (58, 4, 0), (59, 4, 0), (60, 4, 0)]) hZ tyX7 tyX7_ok nmX7 dX7_init_111 rfl (by decide) iw_X7 wf_X7_53 rfl rfl hR.2.2.2 rfl ⟨rfl, rfl⟩ (by decide +kernel) (Nat.le_of_ble_eq_true rfl) ?_
  refine g_aload_n hZ dX7_init_114 rfl ?_
  refine g_sipush hZ dX7_init_115 ?_
  refine g_newI (N := 401) (z := 74) hZ rfl dX7_init_118 (Nat.le_of_ble_eq_true rfl) (Nat.le_of_ble_eq_true rfl) (Nat.le_of_ble_eq_true rfl) (by decide +kernel) (fun i => by simp [mY, mW, mV, mU, mT, zM, up]) ?_
  refine g_putF (c := 59) (ci := 6) (kf := 39) (t := 74) (fs := [(0, 0, 0), (1, 1, 60), (2, 1, 61), (3, 0, 0), (4, 0, 0), (5, 1, 62), (6, 0, 0), (7, 1, 63), (8, 1, 64), (9, 1, 65), (10, 1, 66), (11, 1, 67), (12, 0, 0), (13, 0, 0), (14, 0, 0), (15, 0, 0), (16, 0, 0), (17, 0, 0), (18, 0, 0), (19, 0, 0), (20, 0, 0), (21, 0, 0), (22, 0, 0), (23, 0, 0), (24, 0, 0), (25, 0, 0), (26, 2, 0), (27, 0, 0), (28, 0, 0), (29, 0, 0), (30, 1, 68), (31, 1, 69), (32, 1, 70), (33, 1, 71), (34, 1, 72), (35, 0, 0), (36, 0, 0), (37, 0, 0), (38, 1, 73), (39, 4, 0), (40, 4, 0), (41, 4, 0), (42, 0, 0), (43, 0, 0), (44, 0, 0), (45, 4, 0), (46, 4, 0), (47, 4, 0), (48, 4, 0), (49, 4, 0), (50, 4, 0), (51, 0, 0), (52, 4, 0), (53, 0, 0), (54, 0, 0), (55, 0, 0), (56, 0, 0), (57, 4, 0), (58, 4, 0), (59, 4, 0), (60, 4, 0)]) hZ tyX7 tyX7_ok nmX7 dX7_init_120 rfl (by decide) iw_X7 wf_X7_56 rfl rfl hR.2.2.2 rfl ⟨rfl, rfl⟩ (by decide +kernel) (Nat.le_of_ble_eq_true rfl) ?_
  refine g_aload_n hZ dX7_init_123 rfl ?_
  refine g_sipush hZ dX7_init_124 ?_
  refine g_newI (N := 401) (z := 75) hZ rfl dX7_init_127 (Nat.le_of_ble_eq_true rfl) (Nat.le_of_ble_eq_true rfl) (Nat.le_of_ble_eq_true rfl) (by decide +kernel) (fun i => by simp [mY, mW, mV, mU, mT, zM, up]) ?_
  refine g_putF (c := 59) (ci := 6) (kf := 40) (t := 75) (fs := [(0, 0, 0), (1, 1, 60), (2, 1, 61), (3, 0, 0), (4, 0, 0), (5, 1, 62), (6, 0, 0), (7, 1, 63), (8, 1, 64), (9, 1, 65), (10, 1, 66), (11, 1, 67), (12, 0, 0), (13, 0, 0), (14, 0, 0), (15, 0, 0), (16, 0, 0), (17, 0, 0), (18, 0, 0), (19, 0, 0), (20, 0, 0), (21, 0, 0), (22, 0, 0), (23, 0, 0), (24, 0, 0), (25, 0, 0), (26, 2, 0), (27, 0, 0), (28, 0, 0), (29, 0, 0), (30, 1, 68), (31, 1, 69), (32, 1, 70), (33, 1, 71), (34, 1, 72), (35, 0, 0), (36, 0, 0), (37, 0, 0), (38, 1, 73), (39, 1, 74), (40, 4, 0), (41, 4, 0), (42, 0, 0), (43, 0, 0), (44, 0, 0), (45, 4, 0), (46, 4, 0), (47, 4, 0), (48, 4, 0), (49, 4, 0), (50, 4, 0), (51, 0, 0), (52, 4, 0), (53, 0, 0), (54, 0, 0), (55, 0, 0), (56, 0, 0), (57, 4, 0), (58, 4, 0), (59, 4, 0), (60, 4, 0)]) hZ tyX7 tyX7_ok nmX7 dX7_init_129 rfl (by decide) iw_X7 wf_X7_59 rfl rfl hR.2.2.2 rfl ⟨rfl, rfl⟩ (by decide +kernel) (Nat.le_of_ble_eq_true rfl) ?_
  refine g_aload_n hZ dX7_init_132 rfl ?_
  refine g_sipush hZ dX7_init_133 ?_
  refine g_newI (N := 401) (z := 76) hZ rfl dX7_init_136 (Nat.le_of_ble_eq_true rfl) (Nat.le_of_ble_eq_true rfl) (Nat.le_of_ble_eq_true rfl) (by decide +kernel) (fun i => by simp [mY, mW, mV, mU, mT, zM, up]) ?_
  refine g_putF (c := 59) (ci := 6) (kf := 41) (t := 76) (fs := [(0, 0, 0), (1, 1, 60), (2, 1, 61), (3, 0, 0), (4, 0, 0), (5, 1, 62), (6, 0, 0), (7, 1, 63), (8, 1, 64), (9, 1, 65), (10, 1, 66), (11, 1, 67), (12, 0, 0), (13, 0, 0), (14, 0, 0), (15, 0, 0), (16, 0, 0), (17, 0, 0), (18, 0, 0), (19, 0, 0), (20, 0, 0), (21, 0, 0), (22, 0, 0), (23, 0, 0), (24, 0, 0), (25, 0, 0), (26, 2, 0), (27, 0, 0), (28, 0, 0), (29, 0, 0), (30, 1, 68), (31, 1, 69), (32, 1, 70), (33, 1, 71), (34, 1, 72), (35, 0, 0), (36, 0, 0), (37, 0, 0), (38, 1, 73), (39, 1, 74), (40, 1, 75), (41, 4, 0), (42, 0, 0), (43, 0, 0), (44, 0, 0), (45, 4, 0), (46, 4, 0), (47, 4, 0), (48, 4, 0), (49, 4, 0), (50, 4, 0), (51, 0, 0), (52, 4, 0), (53, 0, 0), (54, 0, 0), (55, 0, 0), (56, 0, 0), (57, 4, 0), (58, 4, 0), (59, 4, 0), (60, 4, 0)]) hZ tyX7 tyX7_ok nmX7 dX7_init_138 rfl (by decide) iw_X7 wf_X7_62 rfl rfl hR.2.2.2 rfl ⟨rfl, rfl⟩ (by decide +kernel) (Nat.le_of_ble_eq_true rfl) ?_
  refine g_aload_n hZ dX7_init_141 rfl ?_
  refine g_ldc (v := (321600 : Int32)) hZ (321600) dX7_init_142 (tb_in 811 (by decide +kernel) (by decide +kernel)) (by decide) ?_
  refine g_newI (N := 321600) (z := 77) hZ rfl dX7_init_144 (Nat.le_of_ble_eq_true rfl) (Nat.le_of_ble_eq_true rfl) (Nat.le_of_ble_eq_true rfl) (by decide +kernel) (fun i => by simp [mY, mW, mV, mU, mT, zM, up]) ?_
  refine g_putF (c := 59) (ci := 6) (kf := 45) (t := 77) (fs := [(0, 0, 0), (1, 1, 60), (2, 1, 61), (3, 0, 0), (4, 0, 0), (5, 1, 62), (6, 0, 0), (7, 1, 63), (8, 1, 64), (9, 1, 65), (10, 1, 66), (11, 1, 67), (12, 0, 0), (13, 0, 0), (14, 0, 0), (15, 0, 0), (16, 0, 0), (17, 0, 0), (18, 0, 0), (19, 0, 0), (20, 0, 0), (21, 0, 0), (22, 0, 0), (23, 0, 0), (24, 0, 0), (25, 0, 0), (26, 2, 0), (27, 0, 0), (28, 0, 0), (29, 0, 0), (30, 1, 68), (31, 1, 69), (32, 1, 70), (33, 1, 71), (34, 1, 72), (35, 0, 0), (36, 0, 0), (37, 0, 0), (38, 1, 73), (39, 1, 74), (40, 1, 75), (41, 1, 76), (42, 0, 0), (43, 0, 0), (44, 0, 0), (45, 4, 0), (46, 4, 0), (47, 4, 0), (48, 4, 0), (49, 4, 0), (50, 4, 0), (51, 0, 0), (52, 4, 0), (53, 0, 0), (54, 0, 0), (55, 0, 0), (56, 0, 0), (57, 4, 0), (58, 4, 0), (59, 4, 0), (60, 4, 0)]) hZ tyX7 tyX7_ok nmX7 dX7_init_146 rfl (by decide) iw_X7 wf_X7_66 rfl rfl hR.2.2.2 rfl ⟨rfl, rfl⟩ (by decide +kernel) (Nat.le_of_ble_eq_true rfl) ?_
  refine g_aload_n hZ dX7_init_149 rfl ?_
  refine g_bipush hZ dX7_init_150 ?_
  refine g_newI (N := 13) (z := 78) hZ rfl dX7_init_152 (Nat.le_of_ble_eq_true rfl) (Nat.le_of_ble_eq_true rfl) (Nat.le_of_ble_eq_true rfl) (by decide +kernel) (fun i => by simp [mY, mW, mV, mU, mT, zM, up]) ?_
  refine g_putF (c := 59) (ci := 6) (kf := 46) (t := 78) (fs := [(0, 0, 0), (1, 1, 60), (2, 1, 61), (3, 0, 0), (4, 0, 0), (5, 1, 62), (6, 0, 0), (7, 1, 63), (8, 1, 64), (9, 1, 65), (10, 1, 66), (11, 1, 67), (12, 0, 0), (13, 0, 0), (14, 0, 0), (15, 0, 0), (16, 0, 0), (17, 0, 0), (18, 0, 0), (19, 0, 0), (20, 0, 0), (21, 0, 0), (22, 0, 0), (23, 0, 0), (24, 0, 0), (25, 0, 0), (26, 2, 0), (27, 0, 0), (28, 0, 0), (29, 0, 0), (30, 1, 68), (31, 1, 69), (32, 1, 70), (33, 1, 71), (34, 1, 72), (35, 0, 0), (36, 0, 0), (37, 0, 0), (38, 1, 73), (39, 1, 74), (40, 1, 75), (41, 1, 76), (42, 0, 0), (43, 0, 0), (44, 0, 0), (45, 1, 77), (46, 4, 0), (47, 4, 0), (48, 4, 0), (49, 4, 0), (50, 4, 0), (51, 0, 0), (52, 4, 0), (53, 0, 0), (54, 0, 0), (55, 0, 0), (56, 0, 0), (57, 4, 0), (58, 4, 0), (59, 4, 0), (60, 4, 0)]) hZ tyX7 tyX7_ok nmX7 dX7_init_154 rfl (by decide) iw_X7 wf_X7_69 rfl rfl hR.2.2.2 rfl ⟨rfl, rfl⟩ (by decide +kernel) (Nat.le_of_ble_eq_true rfl) ?_
  refine g_aload_n hZ dX7_init_157 rfl ?_
  refine g_bipush hZ dX7_init_158 ?_
  refine g_newI (N := 13) (z := 79) hZ rfl dX7_init_160 (Nat.le_of_ble_eq_true rfl) (Nat.le_of_ble_eq_true rfl) (Nat.le_of_ble_eq_true rfl) (by decide +kernel) (fun i => by simp [mY, mW, mV, mU, mT, zM, up]) ?_
  refine g_putF (c := 59) (ci := 6) (kf := 47) (t := 79) (fs := [(0, 0, 0), (1, 1, 60), (2, 1, 61), (3, 0, 0), (4, 0, 0), (5, 1, 62), (6, 0, 0), (7, 1, 63), (8, 1, 64), (9, 1, 65), (10, 1, 66), (11, 1, 67), (12, 0, 0), (13, 0, 0), (14, 0, 0), (15, 0, 0), (16, 0, 0), (17, 0, 0), (18, 0, 0), (19, 0, 0), (20, 0, 0), (21, 0, 0), (22, 0, 0), (23, 0, 0), (24, 0, 0), (25, 0, 0), (26, 2, 0), (27, 0, 0), (28, 0, 0), (29, 0, 0), (30, 1, 68), (31, 1, 69), (32, 1, 70), (33, 1, 71), (34, 1, 72), (35, 0, 0), (36, 0, 0), (37, 0, 0), (38, 1, 73), (39, 1, 74), (40, 1, 75), (41, 1, 76), (42, 0, 0), (43, 0, 0), (44, 0, 0), (45, 1, 77), (46, 1, 78), (47, 4, 0), (48, 4, 0), (49, 4, 0), (50, 4, 0), (51, 0, 0), (52, 4, 0), (53, 0, 0), (54, 0, 0), (55, 0, 0), (56, 0, 0), (57, 4, 0), (58, 4, 0), (59, 4, 0), (60, 4, 0)]) hZ tyX7 tyX7_ok nmX7 dX7_init_162 rfl (by decide) iw_X7 wf_X7_72 rfl rfl hR.2.2.2 rfl ⟨rfl, rfl⟩ (by decide +kernel) (Nat.le_of_ble_eq_true rfl) ?_
  refine g_aload_n hZ dX7_init_165 rfl ?_
  refine g_iconst hZ dX7_init_166 ?_
  refine g_newI (N := 4) (z := 80) hZ rfl dX7_init_167 (Nat.le_of_ble_eq_true rfl) (Nat.le_of_ble_eq_true rfl) (Nat.le_of_ble_eq_true rfl) (by decide +kernel) (fun i => by simp [mY, mW, mV, mU, mT, zM, up]) ?_
  refine g_putF (c := 59) (ci := 6) (kf := 48) (t := 80) (fs := [(0, 0, 0), (1, 1, 60), (2, 1, 61), (3, 0, 0), (4, 0, 0), (5, 1, 62), (6, 0, 0), (7, 1, 63), (8, 1, 64), (9, 1, 65), (10, 1, 66), (11, 1, 67), (12, 0, 0), (13, 0, 0), (14, 0, 0), (15, 0, 0), (16, 0, 0), (17, 0, 0), (18, 0, 0), (19, 0, 0), (20, 0, 0), (21, 0, 0), (22, 0, 0), (23, 0, 0), (24, 0, 0), (25, 0, 0), (26, 2, 0), (27, 0, 0), (28, 0, 0), (29, 0, 0), (30, 1, 68), (31, 1, 69), (32, 1, 70), (33, 1, 71), (34, 1, 72), (35, 0, 0), (36, 0, 0), (37, 0, 0), (38, 1, 73), (39, 1, 74), (40, 1, 75), (41, 1, 76), (42, 0, 0), (43, 0, 0), (44, 0, 0), (45, 1, 77), (46, 1, 78), (47, 1, 79), (48, 4, 0), (49, 4, 0), (50, 4, 0), (51, 0, 0), (52, 4, 0), (53, 0, 0), (54, 0, 0), (55, 0, 0), (56, 0, 0), (57, 4, 0), (58, 4, 0), (59, 4, 0), (60, 4, 0)]) hZ tyX7 tyX7_ok nmX7 dX7_init_169 rfl (by decide) iw_X7 wf_X7_75 rfl rfl hR.2.2.2 rfl ⟨rfl, rfl⟩ (by decide +kernel) (Nat.le_of_ble_eq_true rfl) ?_
  refine g_aload_n hZ dX7_init_172 rfl ?_
  refine g_iconst hZ dX7_init_173 ?_
  refine g_newI (N := 4) (z := 81) hZ rfl dX7_init_174 (Nat.le_of_ble_eq_true rfl) (Nat.le_of_ble_eq_true rfl) (Nat.le_of_ble_eq_true rfl) (by decide +kernel) (fun i => by simp [mY, mW, mV, mU, mT, zM, up]) ?_
  refine g_putF (c := 59) (ci := 6) (kf := 49) (t := 81) (fs := [(0, 0, 0), (1, 1, 60), (2, 1, 61), (3, 0, 0), (4, 0, 0), (5, 1, 62), (6, 0, 0), (7, 1, 63), (8, 1, 64), (9, 1, 65), (10, 1, 66), (11, 1, 67), (12, 0, 0), (13, 0, 0), (14, 0, 0), (15, 0, 0), (16, 0, 0), (17, 0, 0), (18, 0, 0), (19, 0, 0), (20, 0, 0), (21, 0, 0), (22, 0, 0), (23, 0, 0), (24, 0, 0), (25, 0, 0), (26, 2, 0), (27, 0, 0), (28, 0, 0), (29, 0, 0), (30, 1, 68), (31, 1, 69), (32, 1, 70), (33, 1, 71), (34, 1, 72), (35, 0, 0), (36, 0, 0), (37, 0, 0), (38, 1, 73), (39, 1, 74), (40, 1, 75), (41, 1, 76), (42, 0, 0), (43, 0, 0), (44, 0, 0), (45, 1, 77), (46, 1, 78), (47, 1, 79), (48, 1, 80), (49, 4, 0), (50, 4, 0), (51, 0, 0), (52, 4, 0), (53, 0, 0), (54, 0, 0), (55, 0, 0), (56, 0, 0), (57, 4, 0), (58, 4, 0), (59, 4, 0), (60, 4, 0)]) hZ tyX7 tyX7_ok nmX7 dX7_init_176 rfl (by decide) iw_X7 wf_X7_78 rfl rfl hR.2.2.2 rfl ⟨rfl, rfl⟩ (by decide +kernel) (Nat.le_of_ble_eq_true rfl) ?_
  refine g_aload_n hZ dX7_init_179 rfl ?_
  refine g_iconst hZ dX7_init_180 ?_
  refine g_newI (N := 4) (z := 82) hZ rfl dX7_init_181 (Nat.le_of_ble_eq_true rfl) (Nat.le_of_ble_eq_true rfl) (Nat.le_of_ble_eq_true rfl) (by decide +kernel) (fun i => by simp [mY, mW, mV, mU, mT, zM, up]) ?_
  refine g_putF (c := 59) (ci := 6) (kf := 50) (t := 82) (fs := [(0, 0, 0), (1, 1, 60), (2, 1, 61), (3, 0, 0), (4, 0, 0), (5, 1, 62), (6, 0, 0), (7, 1, 63), (8, 1, 64), (9, 1, 65), (10, 1, 66), (11, 1, 67), (12, 0, 0), (13, 0, 0), (14, 0, 0), (15, 0, 0), (16, 0, 0), (17, 0, 0), (18, 0, 0), (19, 0, 0), (20, 0, 0), (21, 0, 0), (22, 0, 0), (23, 0, 0), (24, 0, 0), (25, 0, 0), (26, 2, 0), (27, 0, 0), (28, 0, 0), (29, 0, 0), (30, 1, 68), (31, 1, 69), (32, 1, 70), (33, 1, 71), (34, 1, 72), (35, 0, 0), (36, 0, 0), (37, 0, 0), (38, 1, 73), (39, 1, 74), (40, 1, 75), (41, 1, 76), (42, 0, 0), (43, 0, 0), (44, 0, 0), (45, 1, 77), (46, 1, 78), (47, 1, 79), (48, 1, 80), (49, 1, 81), (50, 4, 0), (51, 0, 0), (52, 4, 0), (53, 0, 0), (54, 0, 0), (55, 0, 0), (56, 0, 0), (57, 4, 0), (58, 4, 0), (59, 4, 0), (60, 4, 0)]) hZ tyX7 tyX7_ok nmX7 dX7_init_183 rfl (by decide) iw_X7 wf_X7_81 rfl rfl hR.2.2.2 rfl ⟨rfl, rfl⟩ (by decide +kernel) (Nat.le_of_ble_eq_true rfl) ?_
  refine g_aload_n hZ dX7_init_186 rfl ?_
  refine g_bipush hZ dX7_init_187 ?_
  refine g_newI (N := 16) (z := 83) hZ rfl dX7_init_189 (Nat.le_of_ble_eq_true rfl) (Nat.le_of_ble_eq_true rfl) (Nat.le_of_ble_eq_true rfl) (by decide +kernel) (fun i => by simp [mY, mW, mV, mU, mT, zM, up]) ?_
  refine g_putF (c := 59) (ci := 6) (kf := 52) (t := 83) (fs := [(0, 0, 0), (1, 1, 60), (2, 1, 61), (3, 0, 0), (4, 0, 0), (5, 1, 62), (6, 0, 0), (7, 1, 63), (8, 1, 64), (9, 1, 65), (10, 1, 66), (11, 1, 67), (12, 0, 0), (13, 0, 0), (14, 0, 0), (15, 0, 0), (16, 0, 0), (17, 0, 0), (18, 0, 0), (19, 0, 0), (20, 0, 0), (21, 0, 0), (22, 0, 0), (23, 0, 0), (24, 0, 0), (25, 0, 0), (26, 2, 0), (27, 0, 0), (28, 0, 0), (29, 0, 0), (30, 1, 68), (31, 1, 69), (32, 1, 70), (33, 1, 71), (34, 1, 72), (35, 0, 0), (36, 0, 0), (37, 0, 0), (38, 1, 73), (39, 1, 74), (40, 1, 75), (41, 1, 76), (42, 0, 0), (43, 0, 0), (44, 0, 0), (45, 1, 77), (46, 1, 78), (47, 1, 79), (48, 1, 80), (49, 1, 81), (50, 1, 82), (51, 0, 0), (52, 4, 0), (53, 0, 0), (54, 0, 0), (55, 0, 0), (56, 0, 0), (57, 4, 0), (58, 4, 0), (59, 4, 0), (60, 4, 0)]) hZ tyX7 tyX7_ok nmX7 dX7_init_191 rfl (by decide) iw_X7 wf_X7_84 rfl rfl hR.2.2.2 rfl ⟨rfl, rfl⟩ (by decide +kernel) (Nat.le_of_ble_eq_true rfl) ?_
  refine g_aload_n hZ dX7_init_194 rfl ?_
  refine g_iconst hZ dX7_init_195 ?_
  refine g_put (c := 59) (ci := 6) (kf := 53) (kd := 0) (v := -1) (M' := mY) (fs := [(0, 0, 0), (1, 1, 60), (2, 1, 61), (3, 0, 0), (4, 0, 0), (5, 1, 62), (6, 0, 0), (7, 1, 63), (8, 1, 64), (9, 1, 65), (10, 1, 66), (11, 1, 67), (12, 0, 0), (13, 0, 0), (14, 0, 0), (15, 0, 0), (16, 0, 0), (17, 0, 0), (18, 0, 0), (19, 0, 0), (20, 0, 0), (21, 0, 0), (22, 0, 0), (23, 0, 0), (24, 0, 0), (25, 0, 0), (26, 2, 0), (27, 0, 0), (28, 0, 0), (29, 0, 0), (30, 1, 68), (31, 1, 69), (32, 1, 70), (33, 1, 71), (34, 1, 72), (35, 0, 0), (36, 0, 0), (37, 0, 0), (38, 1, 73), (39, 1, 74), (40, 1, 75), (41, 1, 76), (42, 0, 0), (43, 0, 0), (44, 0, 0), (45, 1, 77), (46, 1, 78), (47, 1, 79), (48, 1, 80), (49, 1, 81), (50, 1, 82), (51, 0, 0), (52, 1, 83), (53, 0, 0), (54, 0, 0), (55, 0, 0), (56, 0, 0), (57, 4, 0), (58, 4, 0), (59, 4, 0), (60, 4, 0)]) (fs' := [(0, 0, 0), (1, 1, 60), (2, 1, 61), (3, 0, 0), (4, 0, 0), (5, 1, 62), (6, 0, 0), (7, 1, 63), (8, 1, 64), (9, 1, 65), (10, 1, 66), (11, 1, 67), (12, 0, 0), (13, 0, 0), (14, 0, 0), (15, 0, 0), (16, 0, 0), (17, 0, 0), (18, 0, 0), (19, 0, 0), (20, 0, 0), (21, 0, 0), (22, 0, 0), (23, 0, 0), (24, 0, 0), (25, 0, 0), (26, 2, 0), (27, 0, 0), (28, 0, 0), (29, 0, 0), (30, 1, 68), (31, 1, 69), (32, 1, 70), (33, 1, 71), (34, 1, 72), (35, 0, 0), (36, 0, 0), (37, 0, 0), (38, 1, 73), (39, 1, 74), (40, 1, 75), (41, 1, 76), (42, 0, 0), (43, 0, 0), (44, 0, 0), (45, 1, 77), (46, 1, 78), (47, 1, 79), (48, 1, 80), (49, 1, 81), (50, 1, 82), (51, 0, 0), (52, 1, 83), (53, 0, 0), (54, 0, 0), (55, 0, 0), (56, 0, 0), (57, 4, 0), (58, 4, 0), (59, 4, 0), (60, 4, 0)]) hZ tyX7 tyX7_ok nmX7 dX7_init_196 rfl (by decide) iw_X7 wf_X7_87 rfl ⟨by decide, by decide⟩ (by decide +kernel) (Nat.le_of_ble_eq_true rfl) (by decide +kernel) (by decide +kernel) (by decide +kernel) rfl (by decide) rfl ?_
  refine g_aload_n hZ dX7_init_199 rfl ?_
  refine g_iconst hZ dX7_init_200 ?_
  refine g_newZ (N := 4) (z := 84) hZ rfl dX7_init_201 (Nat.le_of_ble_eq_true rfl) (Nat.le_of_ble_eq_true rfl) (Nat.le_of_ble_eq_true rfl) (by decide +kernel) (fun i => by simp [mY, mW, mV, mU, mT, zM, up]) ?_
  refine g_putF (c := 59) (ci := 6) (kf := 57) (t := 84) (fs := [(0, 0, 0), (1, 1, 60), (2, 1, 61), (3, 0, 0), (4, 0, 0), (5, 1, 62), (6, 0, 0), (7, 1, 63), (8, 1, 64), (9, 1, 65), (10, 1, 66), (11, 1, 67), (12, 0, 0), (13, 0, 0), (14, 0, 0), (15, 0, 0), (16, 0, 0), (17, 0, 0), (18, 0, 0), (19, 0, 0), (20, 0, 0), (21, 0, 0), (22, 0, 0), (23, 0, 0), (24, 0, 0), (25, 0, 0), (26, 2, 0), (27, 0, 0), (28, 0, 0), (29, 0, 0), (30, 1, 68), (31, 1, 69), (32, 1, 70), (33, 1, 71), (34, 1, 72), (35, 0, 0), (36, 0, 0), (37, 0, 0), (38, 1, 73), (39, 1, 74), (40, 1, 75), (41, 1, 76), (42, 0, 0), (43, 0, 0), (44, 0, 0), (45, 1, 77), (46, 1, 78), (47, 1, 79), (48, 1, 80), (49, 1, 81), (50, 1, 82), (51, 0, 0), (52, 1, 83), (53, 0, 0), (54, 0, 0), (55, 0, 0), (56, 0, 0), (57, 4, 0), (58, 4, 0), (59, 4, 0), (60, 4, 0)]) hZ tyX7 tyX7_ok nmX7 dX7_init_203 rfl (by decide) iw_X7 wf_X7_90 rfl rfl hR.2.2.2 rfl ⟨rfl, rfl⟩ (by decide +kernel) (Nat.le_of_ble_eq_true rfl) ?_
  refine g_aload_n hZ dX7_init_206 rfl ?_
  refine g_iconst hZ dX7_init_207 ?_
  refine g_newI (N := 4) (z := 85) hZ rfl dX7_init_208 (Nat.le_of_ble_eq_true rfl) (Nat.le_of_ble_eq_true rfl) (Nat.le_of_ble_eq_true rfl) (by decide +kernel) (fun i => by simp [mY, mW, mV, mU, mT, zM, up]) ?_
  refine g_putF (c := 59) (ci := 6) (kf := 58) (t := 85) (fs := [(0, 0, 0), (1, 1, 60), (2, 1, 61), (3, 0, 0), (4, 0, 0), (5, 1, 62), (6, 0, 0), (7, 1, 63), (8, 1, 64), (9, 1, 65), (10, 1, 66), (11, 1, 67), (12, 0, 0), (13, 0, 0), (14, 0, 0), (15, 0, 0), (16, 0, 0), (17, 0, 0), (18, 0, 0), (19, 0, 0), (20, 0, 0), (21, 0, 0), (22, 0, 0), (23, 0, 0), (24, 0, 0), (25, 0, 0), (26, 2, 0), (27, 0, 0), (28, 0, 0), (29, 0, 0), (30, 1, 68), (31, 1, 69), (32, 1, 70), (33, 1, 71), (34, 1, 72), (35, 0, 0), (36, 0, 0), (37, 0, 0), (38, 1, 73), (39, 1, 74), (40, 1, 75), (41, 1, 76), (42, 0, 0), (43, 0, 0), (44, 0, 0), (45, 1, 77), (46, 1, 78), (47, 1, 79), (48, 1, 80), (49, 1, 81), (50, 1, 82), (51, 0, 0), (52, 1, 83), (53, 0, 0), (54, 0, 0), (55, 0, 0), (56, 0, 0), (57, 1, 84), (58, 4, 0), (59, 4, 0), (60, 4, 0)]) hZ tyX7 tyX7_ok nmX7 dX7_init_210 rfl (by decide) iw_X7 wf_X7_94 rfl rfl hR.2.2.2 rfl ⟨rfl, rfl⟩ (by decide +kernel) (Nat.le_of_ble_eq_true rfl) ?_
  refine g_aload_n hZ dX7_init_213 rfl ?_
  refine g_iconst hZ dX7_init_214 ?_
  refine g_newI (N := 4) (z := 86) hZ rfl dX7_init_215 (Nat.le_of_ble_eq_true rfl) (Nat.le_of_ble_eq_true rfl) (Nat.le_of_ble_eq_true rfl) (by decide +kernel) (fun i => by simp [mY, mW, mV, mU, mT, zM, up]) ?_
  refine g_putF (c := 59) (ci := 6) (kf := 59) (t := 86) (fs := [(0, 0, 0), (1, 1, 60), (2, 1, 61), (3, 0, 0), (4, 0, 0), (5, 1, 62), (6, 0, 0), (7, 1, 63), (8, 1, 64), (9, 1, 65), (10, 1, 66), (11, 1, 67), (12, 0, 0), (13, 0, 0), (14, 0, 0), (15, 0, 0), (16, 0, 0), (17, 0, 0), (18, 0, 0), (19, 0, 0), (20, 0, 0), (21, 0, 0), (22, 0, 0), (23, 0, 0), (24, 0, 0), (25, 0, 0), (26, 2, 0), (27, 0, 0), (28, 0, 0), (29, 0, 0), (30, 1, 68), (31, 1, 69), (32, 1, 70), (33, 1, 71), (34, 1, 72), (35, 0, 0), (36, 0, 0), (37, 0, 0), (38, 1, 73), (39, 1, 74), (40, 1, 75), (41, 1, 76), (42, 0, 0), (43, 0, 0), (44, 0, 0), (45, 1, 77), (46, 1, 78), (47, 1, 79), (48, 1, 80), (49, 1, 81), (50, 1, 82), (51, 0, 0), (52, 1, 83), (53, 0, 0), (54, 0, 0), (55, 0, 0), (56, 0, 0), (57, 1, 84), (58, 1, 85), (59, 4, 0), (60, 4, 0)]) hZ tyX7 tyX7_ok nmX7 dX7_init_217 rfl (by decide) iw_X7 wf_X7_97 rfl rfl hR.2.2.2 rfl ⟨rfl, rfl⟩ (by decide +kernel) (Nat.le_of_ble_eq_true rfl) ?_
  refine g_aload_n hZ dX7_init_220 rfl ?_
  refine g_sipush hZ dX7_init_221 ?_
  refine g_newI (N := 160) (z := 87) hZ rfl dX7_init_224 (Nat.le_of_ble_eq_true rfl) (Nat.le_of_ble_eq_true rfl) (Nat.le_of_ble_eq_true rfl) (by decide +kernel) (fun i => by simp [mY, mW, mV, mU, mT, zM, up]) ?_
  refine g_putF (c := 59) (ci := 6) (kf := 60) (t := 87) (fs := [(0, 0, 0), (1, 1, 60), (2, 1, 61), (3, 0, 0), (4, 0, 0), (5, 1, 62), (6, 0, 0), (7, 1, 63), (8, 1, 64), (9, 1, 65), (10, 1, 66), (11, 1, 67), (12, 0, 0), (13, 0, 0), (14, 0, 0), (15, 0, 0), (16, 0, 0), (17, 0, 0), (18, 0, 0), (19, 0, 0), (20, 0, 0), (21, 0, 0), (22, 0, 0), (23, 0, 0), (24, 0, 0), (25, 0, 0), (26, 2, 0), (27, 0, 0), (28, 0, 0), (29, 0, 0), (30, 1, 68), (31, 1, 69), (32, 1, 70), (33, 1, 71), (34, 1, 72), (35, 0, 0), (36, 0, 0), (37, 0, 0), (38, 1, 73), (39, 1, 74), (40, 1, 75), (41, 1, 76), (42, 0, 0), (43, 0, 0), (44, 0, 0), (45, 1, 77), (46, 1, 78), (47, 1, 79), (48, 1, 80), (49, 1, 81), (50, 1, 82), (51, 0, 0), (52, 1, 83), (53, 0, 0), (54, 0, 0), (55, 0, 0), (56, 0, 0), (57, 1, 84), (58, 1, 85), (59, 1, 86), (60, 4, 0)]) hZ tyX7 tyX7_ok nmX7 dX7_init_226 rfl (by decide) iw_X7 wf_X7_100 rfl rfl hR.2.2.2 rfl ⟨rfl, rfl⟩ (by decide +kernel) (Nat.le_of_ble_eq_true rfl) ?_
  refine g_full (by decide +kernel) mY_can ?_
  have hC := hZ.C (k := 28) (n := 324642) (Nat.le_of_ble_eq_true rfl) (Nat.le_of_ble_eq_true rfl)
  show fG X mX7_init (zK Z 28 324642) 229 _ [] mY
  refine f_aload_n hC dX7_init_229 rfl ?_
  refine f_iconst hC dX7_init_230 ?_
  refine f_bipush hC dX7_init_231 ?_
  refine f_bipush hC dX7_init_233 ?_
  refine f_bipush hC dX7_init_235 ?_
  refine f_bipush hC dX7_init_237 ?_
  refine f_bipush hC dX7_init_239 ?_
  refine f_bipush hC dX7_init_241 ?_
  refine f_bipush hC dX7_init_243 ?_
  refine f_bipush hC dX7_init_245 ?_
  refine vX7_103 hC dX7_init_247 (t_X7_spell (by omega) (by omega) (by omega) (by omega) (by omega) (by omega) (by omega) (by omega) (by omega) (by omega)) (fun K0 e0 => ?_)
  subst e0
  refine f_aload_n hC dX7_init_250 rfl ?_
  refine f_bipush hC dX7_init_251 ?_
  refine f_bipush hC dX7_init_253 ?_
  refine f_bipush hC dX7_init_255 ?_
  refine f_bipush hC dX7_init_257 ?_
  refine f_bipush hC dX7_init_259 ?_
  refine f_bipush hC dX7_init_261 ?_
  refine f_bipush hC dX7_init_263 ?_
  refine f_bipush hC dX7_init_265 ?_
  refine f_bipush hC dX7_init_267 ?_
  refine vX7_103 hC dX7_init_269 (t_X7_spell (by omega) (by omega) (by omega) (by omega) (by omega) (by omega) (by omega) (by omega) (by omega) (by omega)) (fun K1 e1 => ?_)
  subst e1
  refine f_aload_n hC dX7_init_272 rfl ?_
  refine f_bipush hC dX7_init_273 ?_
  refine f_bipush hC dX7_init_275 ?_
  refine f_bipush hC dX7_init_277 ?_
  refine f_bipush hC dX7_init_279 ?_
  refine f_bipush hC dX7_init_281 ?_
  refine f_bipush hC dX7_init_283 ?_
  refine f_bipush hC dX7_init_285 ?_
  refine f_bipush hC dX7_init_287 ?_
  refine f_bipush hC dX7_init_289 ?_
  refine vX7_103 hC dX7_init_291 (t_X7_spell (by omega) (by omega) (by omega) (by omega) (by omega) (by omega) (by omega) (by omega) (by omega) (by omega)) (fun K2 e2 => ?_)
  subst e2
  refine f_aload_n hC dX7_init_294 rfl ?_
  refine f_bipush hC dX7_init_295 ?_
  refine f_bipush hC dX7_init_297 ?_
  refine f_bipush hC dX7_init_299 ?_
  refine f_bipush hC dX7_init_301 ?_
  refine f_bipush hC dX7_init_303 ?_
  refine f_bipush hC dX7_init_305 ?_
  refine f_bipush hC dX7_init_307 ?_
  refine f_bipush hC dX7_init_309 ?_
  refine f_bipush hC dX7_init_311 ?_
  refine vX7_103 hC dX7_init_313 (t_X7_spell (by omega) (by omega) (by omega) (by omega) (by omega) (by omega) (by omega) (by omega) (by omega) (by omega)) (fun K3 e3 => ?_)
  subst e3
  refine f_aload_n hC dX7_init_316 rfl ?_
  refine gX7_17 hC dX7_init_317 ?_
  refine f_iconst hC dX7_init_320 ?_
  refine f_bipush hC dX7_init_321 ?_
  refine f_iastore hC dX7_init_323 rfl rfl (by omega) (by omega) (by omega) ?_
  refine f_aload_n hC dX7_init_324 rfl ?_
  refine f_iconst hC dX7_init_325 ?_
  refine pX7_107 hC dX7_init_326 (by omega) ?_
  exact f_ret7 hZ hR dX7_init_329 rfl (Nat.le_of_ble_eq_true rfl) (Nat.le_of_ble_eq_true rfl) rfl
