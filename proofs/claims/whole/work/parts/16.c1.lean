/-! Cloth -/
def WfC (M : fM) (c : Nat) : Prop := (0 ≤ M c 5 ∧ M c 5 ≤ 4) ∧ (0 ≤ M c 6 ∧ M c 6 ≤ 9) ∧ (0 ≤ M c 7 ∧ M c 7 ≤ 9999) ∧ WfA (M c 5) (M (c + 1)) (M (c + 2)) (M (c + 3)) (M (c + 4)) (M (c + 5))
set_option maxRecDepth 20000 in
set_option maxHeartbeats 4000000 in
theorem t_X0_has {X : fX} {M : fM} {d c : Nat} (hC : isC c) {w : Int} (hw : rg w) (hn : 0 ≤ M c 5 ∧ M c 5 ≤ 4) : fC X d mX0_has [.ref (xa X c), .int (iv w)] M (QI fun r M' => M' = M ∧ bz r (0 ≤ w ∧ w < M c 5)) := by
  refine fC.of (L := [_, _]) (by decide +kernel) rfl (Nat.le_of_ble_eq_true rfl) (fun Z hZ hR => ?_)
  refine f_iload_n hZ dX0_has_0 rfl ?_
  refine f_lt (tgt := 21) hZ dX0_has_1 rfl (by omega) (fun h1 => ?_) (fun h1 => ?_)
  · refine f_iconst hZ dX0_has_21 ?_
    exact f_retZ hZ hR dX0_has_22 rfl (by omega) (by exact ⟨rfl, by omega⟩)
  · refine f_iload_n hZ dX0_has_4 rfl ?_
    refine f_aload_n hZ dX0_has_5 rfl ?_
    refine gX0_27 hZ dX0_has_6 (by first | exact hC | exact isC1 | exact isC7 | exact isC13) (fun r6 => ?_)
    refine f_ige (tgt := 21) hZ dX0_has_9 rfl (by omega) (by omega) (fun h9 => ?_) (fun h9 => ?_)
    · refine f_iconst hZ dX0_has_21 ?_
      exact f_retZ hZ hR dX0_has_22 rfl (by omega) (by exact ⟨rfl, by omega⟩)
    · refine f_iload_n hZ dX0_has_12 rfl ?_
      refine f_iconst hZ dX0_has_13 ?_
      refine f_ige (tgt := 21) hZ dX0_has_14 rfl (by omega) (by omega) (fun h14 => ?_) (fun h14 => ?_)
      · refine f_iconst hZ dX0_has_21 ?_
        exact f_retZ hZ hR dX0_has_22 rfl (by omega) (by exact ⟨rfl, by omega⟩)
      · refine f_iconst hZ dX0_has_17 ?_
        refine f_goto (tgt := 22) hZ dX0_has_18 rfl ?_
        exact f_retZ hZ hR dX0_has_22 rfl (by omega) (by exact ⟨rfl, by omega⟩)

def addM (M : fM) (c : Nat) (k n p : Int) : fM := up (up (up (up (up (up M (c + 1) (M c 5) k) (c + 2) (M c 5) n) (c + 3) (M c 5) p) (c + 4) (M c 5) 0) (c + 5) (M c 5) 0) c 5 (M c 5 + 1)
set_option maxRecDepth 20000 in
set_option maxHeartbeats 4000000 in
theorem t_X0_add {X : fX} {M : fM} {d c : Nat} (hC : isC c) {k n p : Int} (hk : rg k) (hnn : rg n) (hp : rg p) (hn : 0 ≤ M c 5 ∧ M c 5 < 4) : fC X d mX0_add [.ref (xa X c), .int (iv k), .int (iv n), .int (iv p)] M (QI fun r M' => M' = addM M c k n p ∧ r = M c 5) := by
  refine fC.of (L := [_, _, _, _, _]) (by decide +kernel) rfl (Nat.le_of_ble_eq_true rfl) (fun Z hZ hR => ?_)
  refine f_aload_n hZ dX0_add_0 rfl ?_
  refine gX0_27 hZ dX0_add_1 (by first | exact hC | exact isC1 | exact isC7 | exact isC13) (fun r1 => ?_)
  refine f_istore (L' := [_, _, _, _, _]) hZ dX0_add_4 rfl rfl ?_
  refine f_iload hZ dX0_add_6 rfl ?_
  refine f_iconst hZ dX0_add_8 ?_
  refine f_ilt (tgt := 15) hZ dX0_add_9 rfl (by omega) (by omega) (fun h9 => ?_) (fun h9 => ?_)
  · refine f_aload_n hZ dX0_add_15 rfl ?_
    refine gX0_9 hZ dX0_add_16 (by first | exact hC | exact isC1 | exact isC7 | exact isC13) ?_
    refine f_iload hZ dX0_add_19 rfl ?_
    refine f_iload_n hZ dX0_add_21 rfl ?_
    refine f_iastore hZ dX0_add_22 (by first | rfl | exact hC.t1 | exact hC.t2 | exact hC.t3 | exact hC.t4 | exact hC.t5) (by first | rfl | exact hC.l1 | exact hC.l2 | exact hC.l3 | exact hC.l4 | exact hC.l5) (by omega) (by omega) (by omega) ?_
    refine f_aload_n hZ dX0_add_23 rfl ?_
    refine gX0_15 hZ dX0_add_24 (by first | exact hC | exact isC1 | exact isC7 | exact isC13) ?_
    refine f_iload hZ dX0_add_27 rfl ?_
    refine f_iload_n hZ dX0_add_29 rfl ?_
    refine f_iastore hZ dX0_add_30 (by first | rfl | exact hC.t1 | exact hC.t2 | exact hC.t3 | exact hC.t4 | exact hC.t5) (by first | rfl | exact hC.l1 | exact hC.l2 | exact hC.l3 | exact hC.l4 | exact hC.l5) (by omega) (by omega) (by omega) ?_
    refine f_aload_n hZ dX0_add_31 rfl ?_
    refine gX0_18 hZ dX0_add_32 (by first | exact hC | exact isC1 | exact isC7 | exact isC13) ?_
    refine f_iload hZ dX0_add_35 rfl ?_
    refine f_iload_n hZ dX0_add_37 rfl ?_
    refine f_iastore hZ dX0_add_38 (by first | rfl | exact hC.t1 | exact hC.t2 | exact hC.t3 | exact hC.t4 | exact hC.t5) (by first | rfl | exact hC.l1 | exact hC.l2 | exact hC.l3 | exact hC.l4 | exact hC.l5) (by omega) (by omega) (by omega) ?_
    refine f_aload_n hZ dX0_add_39 rfl ?_
    refine gX0_21 hZ dX0_add_40 (by first | exact hC | exact isC1 | exact isC7 | exact isC13) ?_
    refine f_iload hZ dX0_add_43 rfl ?_
    refine f_iconst hZ dX0_add_45 ?_
    refine f_iastore hZ dX0_add_46 (by first | rfl | exact hC.t1 | exact hC.t2 | exact hC.t3 | exact hC.t4 | exact hC.t5) (by first | rfl | exact hC.l1 | exact hC.l2 | exact hC.l3 | exact hC.l4 | exact hC.l5) (by omega) (by omega) (by omega) ?_
    refine f_aload_n hZ dX0_add_47 rfl ?_
    refine gX0_24 hZ dX0_add_48 (by first | exact hC | exact isC1 | exact isC7 | exact isC13) ?_
    refine f_iload hZ dX0_add_51 rfl ?_
    refine f_iconst hZ dX0_add_53 ?_
    refine f_iastore hZ dX0_add_54 (by first | rfl | exact hC.t1 | exact hC.t2 | exact hC.t3 | exact hC.t4 | exact hC.t5) (by first | rfl | exact hC.l1 | exact hC.l2 | exact hC.l3 | exact hC.l4 | exact hC.l5) (by omega) (by omega) (by omega) ?_
    refine f_aload_n hZ dX0_add_55 rfl ?_
    refine f_iload hZ dX0_add_56 rfl ?_
    refine f_iconst hZ dX0_add_58 ?_
    refine f_iadd hZ dX0_add_59 ?_
    refine pX0_27 hZ dX0_add_60 (by first | exact hC | exact isC1 | exact isC7 | exact isC13) (by omega) ?_
    refine f_iload hZ dX0_add_63 rfl ?_
    exact f_retI hZ hR dX0_add_65 rfl (by omega) (by first | exact ⟨rfl, rfl⟩ | (exfalso; omega))
  · refine f_bipush hZ dX0_add_12 ?_
    exact f_retI hZ hR dX0_add_14 rfl (by omega) (by first | exact ⟨rfl, rfl⟩ | (exfalso; omega))

def chgA (c : Nat) (q : Int) : Nat := if q = 0 then c + 3 else if q = 1 then c + 4 else if q = 2 then c + 5 else c + 2
def chgM (M : fM) (c : Nat) (q w v : Int) : fM := if (if q = 0 then v else M (c + 3) w) = 0 then up (up M (chgA c q) w v) (c + 4) w 0 else up M (chgA c q) w v
set_option maxRecDepth 20000 in
set_option maxHeartbeats 4000000 in
theorem t_X0_change {X : fX} {M : fM} {d c : Nat} (hC : isC c) {q w v : Int} (hq : 0 ≤ q ∧ q ≤ 3) (hw : 0 ≤ w ∧ w < M c 5) (hv : rg v) (hn : M c 5 ≤ 4) : fC X (d + 1) mX0_change [.ref (xa X c), .int (iv q), .int (iv w), .int (iv v)] M (QI fun r M' => M' = chgM M c q w v ∧ r = setR (M (c + 2)) (M (c + 3)) (M (c + 4)) (M (c + 5)) 0 0 q w) := by
  refine fC.of (L := [_, _, _, _, _, _]) (by decide +kernel) rfl (Nat.le_of_ble_eq_true rfl) (fun Z hZ hR => ?_)
  rcases (show q = 0 ∨ q = 1 ∨ q = 2 ∨ q = 3 by omega) with rfl | rfl | rfl | rfl
  · refine f_iload_n hZ dX0_change_0 rfl ?_
    refine f_ne (tgt := 11) hZ dX0_change_1 rfl (by omega) (fun h1 => ?_) (fun h1 => ?_)
    · exfalso; omega
    · refine f_aload_n hZ dX0_change_4 rfl ?_
      refine gX0_18 hZ dX0_change_5 (by first | exact hC | exact isC1 | exact isC7 | exact isC13) ?_
      refine f_goto (tgt := 39) hZ dX0_change_8 rfl ?_
      refine f_astore (L' := [_, _, _, _, _, _]) hZ dX0_change_39 rfl rfl ?_
      refine f_aload_n hZ dX0_change_41 rfl ?_
      refine f_iload_n hZ dX0_change_42 rfl ?_
      refine vX0_40 hZ dX0_change_43 (by first | exact hC | exact isC1 | exact isC7 | exact isC13) (t_X0_has hC (by omega) (by omega)) (fun a43 M43 r43 h43 => ?_)
      obtain ⟨e43, h43⟩ := h43
      replace e43 := e43.symm
      subst e43
      refine f_ne (tgt := 52) hZ dX0_change_46 rfl (by omega) (fun h46 => ?_) (fun h46 => ?_)
      · refine f_aload hZ dX0_change_52 rfl ?_
        refine f_iload_n hZ dX0_change_54 rfl ?_
        refine f_iaload hZ dX0_change_55 (by first | rfl | exact hC.t1 | exact hC.t2 | exact hC.t3 | exact hC.t4 | exact hC.t5) (by first | rfl | exact hC.l1 | exact hC.l2 | exact hC.l3 | exact hC.l4 | exact hC.l5) (by omega) (by omega) (fun r55 => ?_)
        refine f_istore (L' := [_, _, _, _, _, _]) hZ dX0_change_56 rfl rfl ?_
        refine f_aload hZ dX0_change_58 rfl ?_
        refine f_iload_n hZ dX0_change_60 rfl ?_
        refine f_iload_n hZ dX0_change_61 rfl ?_
        refine f_iastore hZ dX0_change_62 (by first | rfl | exact hC.t1 | exact hC.t2 | exact hC.t3 | exact hC.t4 | exact hC.t5) (by first | rfl | exact hC.l1 | exact hC.l2 | exact hC.l3 | exact hC.l4 | exact hC.l5) (by omega) (by omega) (by omega) ?_
        refine f_aload_n hZ dX0_change_63 rfl ?_
        refine gX0_18 hZ dX0_change_64 (by first | exact hC | exact isC1 | exact isC7 | exact isC13) ?_
        refine f_iload_n hZ dX0_change_67 rfl ?_
        refine f_iaload hZ dX0_change_68 (by first | rfl | exact hC.t1 | exact hC.t2 | exact hC.t3 | exact hC.t4 | exact hC.t5) (by first | rfl | exact hC.l1 | exact hC.l2 | exact hC.l3 | exact hC.l4 | exact hC.l5) (by omega) (by omega) (fun r68 => ?_)
        try simp only [up_app, Nat.add_left_cancel_iff, Nat.left_eq_add, Nat.add_eq_left, Nat.reduceEqDiff, Int.reduceEq, and_true, true_and, and_self, and_false, false_and, if_true, if_false, reduceIte] at r68 ⊢
        refine f_ne (tgt := 79) hZ dX0_change_69 rfl (by omega) (fun h69 => ?_) (fun h69 => ?_)
        · refine f_iload hZ dX0_change_79 rfl ?_
          exact f_retI hZ hR dX0_change_81 rfl (by omega) (by first | (exfalso; omega) | (refine ⟨?_, rfl⟩; first | (show _ = (if (v) = 0 then _ else _); rw [if_pos (by omega)]; rfl) | (show _ = (if (v) = 0 then _ else _); rw [if_neg (by omega)]; rfl)))
        · refine f_aload_n hZ dX0_change_72 rfl ?_
          refine gX0_21 hZ dX0_change_73 (by first | exact hC | exact isC1 | exact isC7 | exact isC13) ?_
          refine f_iload_n hZ dX0_change_76 rfl ?_
          refine f_iconst hZ dX0_change_77 ?_
          refine f_iastore hZ dX0_change_78 (by first | rfl | exact hC.t1 | exact hC.t2 | exact hC.t3 | exact hC.t4 | exact hC.t5) (by first | rfl | exact hC.l1 | exact hC.l2 | exact hC.l3 | exact hC.l4 | exact hC.l5) (by omega) (by omega) (by omega) ?_
          refine f_iload hZ dX0_change_79 rfl ?_
          exact f_retI hZ hR dX0_change_81 rfl (by omega) (by first | (exfalso; omega) | (refine ⟨?_, rfl⟩; first | (show _ = (if (v) = 0 then _ else _); rw [if_pos (by omega)]; rfl) | (show _ = (if (v) = 0 then _ else _); rw [if_neg (by omega)]; rfl)))
      · exfalso; omega
  · refine f_iload_n hZ dX0_change_0 rfl ?_
    refine f_ne (tgt := 11) hZ dX0_change_1 rfl (by omega) (fun h1 => ?_) (fun h1 => ?_)
    · refine f_iload_n hZ dX0_change_11 rfl ?_
      refine f_iconst hZ dX0_change_12 ?_
      refine f_ine (tgt := 23) hZ dX0_change_13 rfl (by omega) (by omega) (fun h13 => ?_) (fun h13 => ?_)
      · exfalso; omega
      · refine f_aload_n hZ dX0_change_16 rfl ?_
        refine gX0_21 hZ dX0_change_17 (by first | exact hC | exact isC1 | exact isC7 | exact isC13) ?_
        refine f_goto (tgt := 39) hZ dX0_change_20 rfl ?_
        refine f_astore (L' := [_, _, _, _, _, _]) hZ dX0_change_39 rfl rfl ?_
        refine f_aload_n hZ dX0_change_41 rfl ?_
        refine f_iload_n hZ dX0_change_42 rfl ?_
        refine vX0_40 hZ dX0_change_43 (by first | exact hC | exact isC1 | exact isC7 | exact isC13) (t_X0_has hC (by omega) (by omega)) (fun a43 M43 r43 h43 => ?_)
        obtain ⟨e43, h43⟩ := h43
        replace e43 := e43.symm
        subst e43
        refine f_ne (tgt := 52) hZ dX0_change_46 rfl (by omega) (fun h46 => ?_) (fun h46 => ?_)
        · refine f_aload hZ dX0_change_52 rfl ?_
          refine f_iload_n hZ dX0_change_54 rfl ?_
          refine f_iaload hZ dX0_change_55 (by first | rfl | exact hC.t1 | exact hC.t2 | exact hC.t3 | exact hC.t4 | exact hC.t5) (by first | rfl | exact hC.l1 | exact hC.l2 | exact hC.l3 | exact hC.l4 | exact hC.l5) (by omega) (by omega) (fun r55 => ?_)
          refine f_istore (L' := [_, _, _, _, _, _]) hZ dX0_change_56 rfl rfl ?_
          refine f_aload hZ dX0_change_58 rfl ?_
          refine f_iload_n hZ dX0_change_60 rfl ?_
          refine f_iload_n hZ dX0_change_61 rfl ?_
          refine f_iastore hZ dX0_change_62 (by first | rfl | exact hC.t1 | exact hC.t2 | exact hC.t3 | exact hC.t4 | exact hC.t5) (by first | rfl | exact hC.l1 | exact hC.l2 | exact hC.l3 | exact hC.l4 | exact hC.l5) (by omega) (by omega) (by omega) ?_
          refine f_aload_n hZ dX0_change_63 rfl ?_
          refine gX0_18 hZ dX0_change_64 (by first | exact hC | exact isC1 | exact isC7 | exact isC13) ?_
          refine f_iload_n hZ dX0_change_67 rfl ?_
          refine f_iaload hZ dX0_change_68 (by first | rfl | exact hC.t1 | exact hC.t2 | exact hC.t3 | exact hC.t4 | exact hC.t5) (by first | rfl | exact hC.l1 | exact hC.l2 | exact hC.l3 | exact hC.l4 | exact hC.l5) (by omega) (by omega) (fun r68 => ?_)
          try simp only [up_app, Nat.add_left_cancel_iff, Nat.left_eq_add, Nat.add_eq_left, Nat.reduceEqDiff, Int.reduceEq, and_true, true_and, and_self, and_false, false_and, if_true, if_false, reduceIte] at r68 ⊢
          refine f_ne (tgt := 79) hZ dX0_change_69 rfl (by omega) (fun h69 => ?_) (fun h69 => ?_)
          · refine f_iload hZ dX0_change_79 rfl ?_
            exact f_retI hZ hR dX0_change_81 rfl (by omega) (by first | (exfalso; omega) | (refine ⟨?_, rfl⟩; first | (show _ = (if (M (c + 3) w) = 0 then _ else _); rw [if_pos (by omega)]; rfl) | (show _ = (if (M (c + 3) w) = 0 then _ else _); rw [if_neg (by omega)]; rfl)))
          · refine f_aload_n hZ dX0_change_72 rfl ?_
            refine gX0_21 hZ dX0_change_73 (by first | exact hC | exact isC1 | exact isC7 | exact isC13) ?_
            refine f_iload_n hZ dX0_change_76 rfl ?_
            refine f_iconst hZ dX0_change_77 ?_
            refine f_iastore hZ dX0_change_78 (by first | rfl | exact hC.t1 | exact hC.t2 | exact hC.t3 | exact hC.t4 | exact hC.t5) (by first | rfl | exact hC.l1 | exact hC.l2 | exact hC.l3 | exact hC.l4 | exact hC.l5) (by omega) (by omega) (by omega) ?_
            refine f_iload hZ dX0_change_79 rfl ?_
            exact f_retI hZ hR dX0_change_81 rfl (by omega) (by first | (exfalso; omega) | (refine ⟨?_, rfl⟩; first | (show _ = (if (M (c + 3) w) = 0 then _ else _); rw [if_pos (by omega)]; rfl) | (show _ = (if (M (c + 3) w) = 0 then _ else _); rw [if_neg (by omega)]; rfl)))
        · exfalso; omega
    · exfalso; omega
  · refine f_iload_n hZ dX0_change_0 rfl ?_
    refine f_ne (tgt := 11) hZ dX0_change_1 rfl (by omega) (fun h1 => ?_) (fun h1 => ?_)
    · refine f_iload_n hZ dX0_change_11 rfl ?_
      refine f_iconst hZ dX0_change_12 ?_
      refine f_ine (tgt := 23) hZ dX0_change_13 rfl (by omega) (by omega) (fun h13 => ?_) (fun h13 => ?_)
      · refine f_iload_n hZ dX0_change_23 rfl ?_
        refine f_iconst hZ dX0_change_24 ?_
        refine f_ine (tgt := 35) hZ dX0_change_25 rfl (by omega) (by omega) (fun h25 => ?_) (fun h25 => ?_)
        · exfalso; omega
        · refine f_aload_n hZ dX0_change_28 rfl ?_
          refine gX0_24 hZ dX0_change_29 (by first | exact hC | exact isC1 | exact isC7 | exact isC13) ?_
          refine f_goto (tgt := 39) hZ dX0_change_32 rfl ?_
          refine f_astore (L' := [_, _, _, _, _, _]) hZ dX0_change_39 rfl rfl ?_
          refine f_aload_n hZ dX0_change_41 rfl ?_
          refine f_iload_n hZ dX0_change_42 rfl ?_
          refine vX0_40 hZ dX0_change_43 (by first | exact hC | exact isC1 | exact isC7 | exact isC13) (t_X0_has hC (by omega) (by omega)) (fun a43 M43 r43 h43 => ?_)
          obtain ⟨e43, h43⟩ := h43
          replace e43 := e43.symm
          subst e43
          refine f_ne (tgt := 52) hZ dX0_change_46 rfl (by omega) (fun h46 => ?_) (fun h46 => ?_)
          · refine f_aload hZ dX0_change_52 rfl ?_
            refine f_iload_n hZ dX0_change_54 rfl ?_
            refine f_iaload hZ dX0_change_55 (by first | rfl | exact hC.t1 | exact hC.t2 | exact hC.t3 | exact hC.t4 | exact hC.t5) (by first | rfl | exact hC.l1 | exact hC.l2 | exact hC.l3 | exact hC.l4 | exact hC.l5) (by omega) (by omega) (fun r55 => ?_)
            refine f_istore (L' := [_, _, _, _, _, _]) hZ dX0_change_56 rfl rfl ?_
            refine f_aload hZ dX0_change_58 rfl ?_
            refine f_iload_n hZ dX0_change_60 rfl ?_
            refine f_iload_n hZ dX0_change_61 rfl ?_
            refine f_iastore hZ dX0_change_62 (by first | rfl | exact hC.t1 | exact hC.t2 | exact hC.t3 | exact hC.t4 | exact hC.t5) (by first | rfl | exact hC.l1 | exact hC.l2 | exact hC.l3 | exact hC.l4 | exact hC.l5) (by omega) (by omega) (by omega) ?_
            refine f_aload_n hZ dX0_change_63 rfl ?_
            refine gX0_18 hZ dX0_change_64 (by first | exact hC | exact isC1 | exact isC7 | exact isC13) ?_
            refine f_iload_n hZ dX0_change_67 rfl ?_
            refine f_iaload hZ dX0_change_68 (by first | rfl | exact hC.t1 | exact hC.t2 | exact hC.t3 | exact hC.t4 | exact hC.t5) (by first | rfl | exact hC.l1 | exact hC.l2 | exact hC.l3 | exact hC.l4 | exact hC.l5) (by omega) (by omega) (fun r68 => ?_)
            try simp only [up_app, Nat.add_left_cancel_iff, Nat.left_eq_add, Nat.add_eq_left, Nat.reduceEqDiff, Int.reduceEq, and_true, true_and, and_self, and_false, false_and, if_true, if_false, reduceIte] at r68 ⊢
            refine f_ne (tgt := 79) hZ dX0_change_69 rfl (by omega) (fun h69 => ?_) (fun h69 => ?_)
            · refine f_iload hZ dX0_change_79 rfl ?_
              exact f_retI hZ hR dX0_change_81 rfl (by omega) (by first | (exfalso; omega) | (refine ⟨?_, rfl⟩; first | (show _ = (if (M (c + 3) w) = 0 then _ else _); rw [if_pos (by omega)]; rfl) | (show _ = (if (M (c + 3) w) = 0 then _ else _); rw [if_neg (by omega)]; rfl)))
            · refine f_aload_n hZ dX0_change_72 rfl ?_
              refine gX0_21 hZ dX0_change_73 (by first | exact hC | exact isC1 | exact isC7 | exact isC13) ?_
              refine f_iload_n hZ dX0_change_76 rfl ?_
              refine f_iconst hZ dX0_change_77 ?_
              refine f_iastore hZ dX0_change_78 (by first | rfl | exact hC.t1 | exact hC.t2 | exact hC.t3 | exact hC.t4 | exact hC.t5) (by first | rfl | exact hC.l1 | exact hC.l2 | exact hC.l3 | exact hC.l4 | exact hC.l5) (by omega) (by omega) (by omega) ?_
              refine f_iload hZ dX0_change_79 rfl ?_
              exact f_retI hZ hR dX0_change_81 rfl (by omega) (by first | (exfalso; omega) | (refine ⟨?_, rfl⟩; first | (show _ = (if (M (c + 3) w) = 0 then _ else _); rw [if_pos (by omega)]; rfl) | (show _ = (if (M (c + 3) w) = 0 then _ else _); rw [if_neg (by omega)]; rfl)))
          · exfalso; omega
      · exfalso; omega
    · exfalso; omega
  · refine f_iload_n hZ dX0_change_0 rfl ?_
    refine f_ne (tgt := 11) hZ dX0_change_1 rfl (by omega) (fun h1 => ?_) (fun h1 => ?_)
    · refine f_iload_n hZ dX0_change_11 rfl ?_
      refine f_iconst hZ dX0_change_12 ?_
      refine f_ine (tgt := 23) hZ dX0_change_13 rfl (by omega) (by omega) (fun h13 => ?_) (fun h13 => ?_)
      · refine f_iload_n hZ dX0_change_23 rfl ?_
        refine f_iconst hZ dX0_change_24 ?_
        refine f_ine (tgt := 35) hZ dX0_change_25 rfl (by omega) (by omega) (fun h25 => ?_) (fun h25 => ?_)
        · refine f_aload_n hZ dX0_change_35 rfl ?_
          refine gX0_15 hZ dX0_change_36 (by first | exact hC | exact isC1 | exact isC7 | exact isC13) ?_
          refine f_astore (L' := [_, _, _, _, _, _]) hZ dX0_change_39 rfl rfl ?_
          refine f_aload_n hZ dX0_change_41 rfl ?_
          refine f_iload_n hZ dX0_change_42 rfl ?_
          refine vX0_40 hZ dX0_change_43 (by first | exact hC | exact isC1 | exact isC7 | exact isC13) (t_X0_has hC (by omega) (by omega)) (fun a43 M43 r43 h43 => ?_)
          obtain ⟨e43, h43⟩ := h43
          replace e43 := e43.symm
          subst e43
          refine f_ne (tgt := 52) hZ dX0_change_46 rfl (by omega) (fun h46 => ?_) (fun h46 => ?_)
          · refine f_aload hZ dX0_change_52 rfl ?_
            refine f_iload_n hZ dX0_change_54 rfl ?_
            refine f_iaload hZ dX0_change_55 (by first | rfl | exact hC.t1 | exact hC.t2 | exact hC.t3 | exact hC.t4 | exact hC.t5) (by first | rfl | exact hC.l1 | exact hC.l2 | exact hC.l3 | exact hC.l4 | exact hC.l5) (by omega) (by omega) (fun r55 => ?_)
            refine f_istore (L' := [_, _, _, _, _, _]) hZ dX0_change_56 rfl rfl ?_
            refine f_aload hZ dX0_change_58 rfl ?_
            refine f_iload_n hZ dX0_change_60 rfl ?_
            refine f_iload_n hZ dX0_change_61 rfl ?_
            refine f_iastore hZ dX0_change_62 (by first | rfl | exact hC.t1 | exact hC.t2 | exact hC.t3 | exact hC.t4 | exact hC.t5) (by first | rfl | exact hC.l1 | exact hC.l2 | exact hC.l3 | exact hC.l4 | exact hC.l5) (by omega) (by omega) (by omega) ?_
            refine f_aload_n hZ dX0_change_63 rfl ?_
            refine gX0_18 hZ dX0_change_64 (by first | exact hC | exact isC1 | exact isC7 | exact isC13) ?_
            refine f_iload_n hZ dX0_change_67 rfl ?_
            refine f_iaload hZ dX0_change_68 (by first | rfl | exact hC.t1 | exact hC.t2 | exact hC.t3 | exact hC.t4 | exact hC.t5) (by first | rfl | exact hC.l1 | exact hC.l2 | exact hC.l3 | exact hC.l4 | exact hC.l5) (by omega) (by omega) (fun r68 => ?_)
            try simp only [up_app, Nat.add_left_cancel_iff, Nat.left_eq_add, Nat.add_eq_left, Nat.reduceEqDiff, Int.reduceEq, and_true, true_and, and_self, and_false, false_and, if_true, if_false, reduceIte] at r68 ⊢
            refine f_ne (tgt := 79) hZ dX0_change_69 rfl (by omega) (fun h69 => ?_) (fun h69 => ?_)
            · refine f_iload hZ dX0_change_79 rfl ?_
              exact f_retI hZ hR dX0_change_81 rfl (by omega) (by first | (exfalso; omega) | (refine ⟨?_, rfl⟩; first | (show _ = (if (M (c + 3) w) = 0 then _ else _); rw [if_pos (by omega)]; rfl) | (show _ = (if (M (c + 3) w) = 0 then _ else _); rw [if_neg (by omega)]; rfl)))
            · refine f_aload_n hZ dX0_change_72 rfl ?_
              refine gX0_21 hZ dX0_change_73 (by first | exact hC | exact isC1 | exact isC7 | exact isC13) ?_
              refine f_iload_n hZ dX0_change_76 rfl ?_
              refine f_iconst hZ dX0_change_77 ?_
              refine f_iastore hZ dX0_change_78 (by first | rfl | exact hC.t1 | exact hC.t2 | exact hC.t3 | exact hC.t4 | exact hC.t5) (by first | rfl | exact hC.l1 | exact hC.l2 | exact hC.l3 | exact hC.l4 | exact hC.l5) (by omega) (by omega) (by omega) ?_
              refine f_iload hZ dX0_change_79 rfl ?_
              exact f_retI hZ hR dX0_change_81 rfl (by omega) (by first | (exfalso; omega) | (refine ⟨?_, rfl⟩; first | (show _ = (if (M (c + 3) w) = 0 then _ else _); rw [if_pos (by omega)]; rfl) | (show _ = (if (M (c + 3) w) = 0 then _ else _); rw [if_neg (by omega)]; rfl)))
          · exfalso; omega
        · exfalso; omega
      · exfalso; omega
    · exfalso; omega

set_option maxRecDepth 20000 in
set_option maxHeartbeats 4000000 in
theorem t_X0_fastOf {X : fX} {M : fM} {d : Nat} {k n l e : Int} (hk : 0 ≤ k ∧ k ≤ 5) (hu : 0 ≤ n ∧ n ≤ 9) (hl : 1 ≤ l ∧ l ≤ 2) (he : 0 ≤ e ∧ e ≤ 9) : fC X d mX0_fastOf [.int (iv k), .int (iv n), .int (iv l), .int (iv e)] M (QI fun r M' => M' = M ∧ r = fastB k n l e) := by
  have h3 := tmod3 hu.1
  have h2 := tdiv2 he.1
  refine fC.of (L := [_, _, _, _, _, _]) (by decide +kernel) rfl (Nat.le_of_ble_eq_true rfl) (fun Z hZ hR => ?_)
  rcases (show k = 0 ∨ k = 1 ∨ k = 2 ∨ k = 3 ∨ k = 4 ∨ k = 5 by omega) with rfl | rfl | rfl | rfl | rfl | rfl
  · refine f_iload_n hZ dX0_fastOf_0 rfl ?_
    refine f_iload_n hZ dX0_fastOf_1 rfl ?_
    refine f_iadd hZ dX0_fastOf_2 ?_
    refine f_istore (L' := [_, _, _, _, _, _]) hZ dX0_fastOf_3 rfl rfl ?_
    refine f_iload_n hZ dX0_fastOf_5 rfl ?_
    refine f_iload_n hZ dX0_fastOf_6 rfl ?_
    refine f_ile (tgt := 16) hZ dX0_fastOf_7 rfl (by omega) (by omega) (fun h7 => ?_) (fun h7 => ?_)
    · refine f_iload_n hZ dX0_fastOf_16 rfl ?_
      refine f_istore (L' := [_, _, _, _, _, _]) hZ dX0_fastOf_17 rfl rfl ?_
      refine f_iload_n hZ dX0_fastOf_19 rfl ?_
      refine f_tswOut (tgt := 98) hZ dX0_fastOf_20 (by omega) (by omega) rfl ?_
      refine f_iload_n hZ dX0_fastOf_98 rfl ?_
      exact f_retI hZ hR dX0_fastOf_99 rfl (by omega) (by refine ⟨rfl, ?_⟩; unfold fastB; (repeat' split) <;> omega)
    · refine f_iload_n hZ dX0_fastOf_10 rfl ?_
      refine f_iconst hZ dX0_fastOf_11 ?_
      refine f_isub hZ dX0_fastOf_12 ?_
      refine f_goto (tgt := 17) hZ dX0_fastOf_13 rfl ?_
      refine f_istore (L' := [_, _, _, _, _, _]) hZ dX0_fastOf_17 rfl rfl ?_
      refine f_iload_n hZ dX0_fastOf_19 rfl ?_
      refine f_tswOut (tgt := 98) hZ dX0_fastOf_20 (by omega) (by omega) rfl ?_
      refine f_iload_n hZ dX0_fastOf_98 rfl ?_
      exact f_retI hZ hR dX0_fastOf_99 rfl (by omega) (by refine ⟨rfl, ?_⟩; unfold fastB; (repeat' split) <;> omega)
  · refine f_iload_n hZ dX0_fastOf_0 rfl ?_
    refine f_iload_n hZ dX0_fastOf_1 rfl ?_
    refine f_iadd hZ dX0_fastOf_2 ?_
    refine f_istore (L' := [_, _, _, _, _, _]) hZ dX0_fastOf_3 rfl rfl ?_
    refine f_iload_n hZ dX0_fastOf_5 rfl ?_
    refine f_iload_n hZ dX0_fastOf_6 rfl ?_
    refine f_ile (tgt := 16) hZ dX0_fastOf_7 rfl (by omega) (by omega) (fun h7 => ?_) (fun h7 => ?_)
    · refine f_iload_n hZ dX0_fastOf_16 rfl ?_
      refine f_istore (L' := [_, _, _, _, _, _]) hZ dX0_fastOf_17 rfl rfl ?_
      refine f_iload_n hZ dX0_fastOf_19 rfl ?_
      refine f_tswIn (tgt := 56) hZ (1) dX0_fastOf_20 (by first | rfl | omega) (by omega) (by omega) (by omega) rfl rfl ?_
      refine f_iload hZ dX0_fastOf_56 rfl ?_
      exact f_retI hZ hR dX0_fastOf_58 rfl (by omega) (by refine ⟨rfl, ?_⟩; unfold fastB; (repeat' split) <;> omega)
    · refine f_iload_n hZ dX0_fastOf_10 rfl ?_
      refine f_iconst hZ dX0_fastOf_11 ?_
      refine f_isub hZ dX0_fastOf_12 ?_
      refine f_goto (tgt := 17) hZ dX0_fastOf_13 rfl ?_
      refine f_istore (L' := [_, _, _, _, _, _]) hZ dX0_fastOf_17 rfl rfl ?_
      refine f_iload_n hZ dX0_fastOf_19 rfl ?_
      refine f_tswIn (tgt := 56) hZ (1) dX0_fastOf_20 (by first | rfl | omega) (by omega) (by omega) (by omega) rfl rfl ?_
      refine f_iload hZ dX0_fastOf_56 rfl ?_
      exact f_retI hZ hR dX0_fastOf_58 rfl (by omega) (by refine ⟨rfl, ?_⟩; unfold fastB; (repeat' split) <;> omega)
  · refine f_iload_n hZ dX0_fastOf_0 rfl ?_
    refine f_iload_n hZ dX0_fastOf_1 rfl ?_
    refine f_iadd hZ dX0_fastOf_2 ?_
    refine f_istore (L' := [_, _, _, _, _, _]) hZ dX0_fastOf_3 rfl rfl ?_
    refine f_iload_n hZ dX0_fastOf_5 rfl ?_
    refine f_iload_n hZ dX0_fastOf_6 rfl ?_
    refine f_ile (tgt := 16) hZ dX0_fastOf_7 rfl (by omega) (by omega) (fun h7 => ?_) (fun h7 => ?_)
    · refine f_iload_n hZ dX0_fastOf_16 rfl ?_
      refine f_istore (L' := [_, _, _, _, _, _]) hZ dX0_fastOf_17 rfl rfl ?_
      refine f_iload_n hZ dX0_fastOf_19 rfl ?_
      refine f_tswIn (tgt := 59) hZ (2) dX0_fastOf_20 (by first | rfl | omega) (by omega) (by omega) (by omega) rfl rfl ?_
      refine f_iload hZ dX0_fastOf_59 rfl ?_
      exact f_retI hZ hR dX0_fastOf_61 rfl (by omega) (by refine ⟨rfl, ?_⟩; unfold fastB; (repeat' split) <;> omega)
    · refine f_iload_n hZ dX0_fastOf_10 rfl ?_
      refine f_iconst hZ dX0_fastOf_11 ?_
      refine f_isub hZ dX0_fastOf_12 ?_
      refine f_goto (tgt := 17) hZ dX0_fastOf_13 rfl ?_
      refine f_istore (L' := [_, _, _, _, _, _]) hZ dX0_fastOf_17 rfl rfl ?_
      refine f_iload_n hZ dX0_fastOf_19 rfl ?_
      refine f_tswIn (tgt := 59) hZ (2) dX0_fastOf_20 (by first | rfl | omega) (by omega) (by omega) (by omega) rfl rfl ?_
      refine f_iload hZ dX0_fastOf_59 rfl ?_
      exact f_retI hZ hR dX0_fastOf_61 rfl (by omega) (by refine ⟨rfl, ?_⟩; unfold fastB; (repeat' split) <;> omega)
  · refine f_iload_n hZ dX0_fastOf_0 rfl ?_
    refine f_iload_n hZ dX0_fastOf_1 rfl ?_
    refine f_iadd hZ dX0_fastOf_2 ?_
    refine f_istore (L' := [_, _, _, _, _, _]) hZ dX0_fastOf_3 rfl rfl ?_
    refine f_iload_n hZ dX0_fastOf_5 rfl ?_
    refine f_iload_n hZ dX0_fastOf_6 rfl ?_
    refine f_ile (tgt := 16) hZ dX0_fastOf_7 rfl (by omega) (by omega) (fun h7 => ?_) (fun h7 => ?_)
    · refine f_iload_n hZ dX0_fastOf_16 rfl ?_
      refine f_istore (L' := [_, _, _, _, _, _]) hZ dX0_fastOf_17 rfl rfl ?_
      refine f_iload_n hZ dX0_fastOf_19 rfl ?_
      refine f_tswIn (tgt := 62) hZ (3) dX0_fastOf_20 (by first | rfl | omega) (by omega) (by omega) (by omega) rfl rfl ?_
      refine f_iload_n hZ dX0_fastOf_62 rfl ?_
      refine f_iconst hZ dX0_fastOf_63 ?_
      refine f_ine (tgt := 76) hZ dX0_fastOf_64 rfl (by omega) (by omega) (fun h64 => ?_) (fun h64 => ?_)
      · refine f_iload hZ dX0_fastOf_76 rfl ?_
        exact f_retI hZ hR dX0_fastOf_78 rfl (by omega) (by refine ⟨rfl, ?_⟩; unfold fastB; (repeat' split) <;> omega)
      · refine f_iload hZ dX0_fastOf_67 rfl ?_
        refine f_iload_n hZ dX0_fastOf_69 rfl ?_
        refine f_iconst hZ dX0_fastOf_70 ?_
        refine f_irem hZ dX0_fastOf_71 (by omega) (by omega) (by omega) (by omega) ?_
        refine f_iadd hZ dX0_fastOf_72 ?_
        refine f_goto (tgt := 78) hZ dX0_fastOf_73 rfl ?_
        exact f_retI hZ hR dX0_fastOf_78 rfl (by omega) (by refine ⟨rfl, ?_⟩; unfold fastB; (repeat' split) <;> omega)
    · refine f_iload_n hZ dX0_fastOf_10 rfl ?_
      refine f_iconst hZ dX0_fastOf_11 ?_
      refine f_isub hZ dX0_fastOf_12 ?_
      refine f_goto (tgt := 17) hZ dX0_fastOf_13 rfl ?_
      refine f_istore (L' := [_, _, _, _, _, _]) hZ dX0_fastOf_17 rfl rfl ?_
      refine f_iload_n hZ dX0_fastOf_19 rfl ?_
      refine f_tswIn (tgt := 62) hZ (3) dX0_fastOf_20 (by first | rfl | omega) (by omega) (by omega) (by omega) rfl rfl ?_
      refine f_iload_n hZ dX0_fastOf_62 rfl ?_
      refine f_iconst hZ dX0_fastOf_63 ?_
      refine f_ine (tgt := 76) hZ dX0_fastOf_64 rfl (by omega) (by omega) (fun h64 => ?_) (fun h64 => ?_)
      · refine f_iload hZ dX0_fastOf_76 rfl ?_
        exact f_retI hZ hR dX0_fastOf_78 rfl (by omega) (by refine ⟨rfl, ?_⟩; unfold fastB; (repeat' split) <;> omega)
      · refine f_iload hZ dX0_fastOf_67 rfl ?_
        refine f_iload_n hZ dX0_fastOf_69 rfl ?_
        refine f_iconst hZ dX0_fastOf_70 ?_
        refine f_irem hZ dX0_fastOf_71 (by omega) (by omega) (by omega) (by omega) ?_
        refine f_iadd hZ dX0_fastOf_72 ?_
        refine f_goto (tgt := 78) hZ dX0_fastOf_73 rfl ?_
        exact f_retI hZ hR dX0_fastOf_78 rfl (by omega) (by refine ⟨rfl, ?_⟩; unfold fastB; (repeat' split) <;> omega)
  · refine f_iload_n hZ dX0_fastOf_0 rfl ?_
    refine f_iload_n hZ dX0_fastOf_1 rfl ?_
    refine f_iadd hZ dX0_fastOf_2 ?_
    refine f_istore (L' := [_, _, _, _, _, _]) hZ dX0_fastOf_3 rfl rfl ?_
    refine f_iload_n hZ dX0_fastOf_5 rfl ?_
    refine f_iload_n hZ dX0_fastOf_6 rfl ?_
    refine f_ile (tgt := 16) hZ dX0_fastOf_7 rfl (by omega) (by omega) (fun h7 => ?_) (fun h7 => ?_)
    · refine f_iload_n hZ dX0_fastOf_16 rfl ?_
      refine f_istore (L' := [_, _, _, _, _, _]) hZ dX0_fastOf_17 rfl rfl ?_
      refine f_iload_n hZ dX0_fastOf_19 rfl ?_
      refine f_tswIn (tgt := 79) hZ (4) dX0_fastOf_20 (by first | rfl | omega) (by omega) (by omega) (by omega) rfl rfl ?_
      refine f_iload_n hZ dX0_fastOf_79 rfl ?_
      refine f_iconst hZ dX0_fastOf_80 ?_
      refine f_ine (tgt := 88) hZ dX0_fastOf_81 rfl (by omega) (by omega) (fun h81 => ?_) (fun h81 => ?_)
      · refine f_iload hZ dX0_fastOf_88 rfl ?_
        exact f_retI hZ hR dX0_fastOf_90 rfl (by omega) (by refine ⟨rfl, ?_⟩; unfold fastB; (repeat' split) <;> omega)
      · refine f_iconst hZ dX0_fastOf_84 ?_
        refine f_goto (tgt := 90) hZ dX0_fastOf_85 rfl ?_
        exact f_retI hZ hR dX0_fastOf_90 rfl (by omega) (by refine ⟨rfl, ?_⟩; unfold fastB; (repeat' split) <;> omega)
    · refine f_iload_n hZ dX0_fastOf_10 rfl ?_
      refine f_iconst hZ dX0_fastOf_11 ?_
      refine f_isub hZ dX0_fastOf_12 ?_
      refine f_goto (tgt := 17) hZ dX0_fastOf_13 rfl ?_
      refine f_istore (L' := [_, _, _, _, _, _]) hZ dX0_fastOf_17 rfl rfl ?_
      refine f_iload_n hZ dX0_fastOf_19 rfl ?_
      refine f_tswIn (tgt := 79) hZ (4) dX0_fastOf_20 (by first | rfl | omega) (by omega) (by omega) (by omega) rfl rfl ?_
      refine f_iload_n hZ dX0_fastOf_79 rfl ?_
      refine f_iconst hZ dX0_fastOf_80 ?_
      refine f_ine (tgt := 88) hZ dX0_fastOf_81 rfl (by omega) (by omega) (fun h81 => ?_) (fun h81 => ?_)
      · refine f_iload hZ dX0_fastOf_88 rfl ?_
        exact f_retI hZ hR dX0_fastOf_90 rfl (by omega) (by refine ⟨rfl, ?_⟩; unfold fastB; (repeat' split) <;> omega)
      · refine f_iconst hZ dX0_fastOf_84 ?_
        refine f_goto (tgt := 90) hZ dX0_fastOf_85 rfl ?_
        exact f_retI hZ hR dX0_fastOf_90 rfl (by omega) (by refine ⟨rfl, ?_⟩; unfold fastB; (repeat' split) <;> omega)
  · refine f_iload_n hZ dX0_fastOf_0 rfl ?_
    refine f_iload_n hZ dX0_fastOf_1 rfl ?_
    refine f_iadd hZ dX0_fastOf_2 ?_
    refine f_istore (L' := [_, _, _, _, _, _]) hZ dX0_fastOf_3 rfl rfl ?_
    refine f_iload_n hZ dX0_fastOf_5 rfl ?_
    refine f_iload_n hZ dX0_fastOf_6 rfl ?_
    refine f_ile (tgt := 16) hZ dX0_fastOf_7 rfl (by omega) (by omega) (fun h7 => ?_) (fun h7 => ?_)
    · refine f_iload_n hZ dX0_fastOf_16 rfl ?_
      refine f_istore (L' := [_, _, _, _, _, _]) hZ dX0_fastOf_17 rfl rfl ?_
      refine f_iload_n hZ dX0_fastOf_19 rfl ?_
      refine f_tswIn (tgt := 91) hZ (5) dX0_fastOf_20 (by first | rfl | omega) (by omega) (by omega) (by omega) rfl rfl ?_
      refine f_iload hZ dX0_fastOf_91 rfl ?_
      refine f_iload_n hZ dX0_fastOf_93 rfl ?_
      refine f_iconst hZ dX0_fastOf_94 ?_
      refine f_idiv hZ dX0_fastOf_95 (by omega) (by omega) (by omega) (by omega) ?_
      refine f_isub hZ dX0_fastOf_96 ?_
      exact f_retI hZ hR dX0_fastOf_97 rfl (by omega) (by refine ⟨rfl, ?_⟩; unfold fastB; (repeat' split) <;> omega)
    · refine f_iload_n hZ dX0_fastOf_10 rfl ?_
      refine f_iconst hZ dX0_fastOf_11 ?_
      refine f_isub hZ dX0_fastOf_12 ?_
      refine f_goto (tgt := 17) hZ dX0_fastOf_13 rfl ?_
      refine f_istore (L' := [_, _, _, _, _, _]) hZ dX0_fastOf_17 rfl rfl ?_
      refine f_iload_n hZ dX0_fastOf_19 rfl ?_
      refine f_tswIn (tgt := 91) hZ (5) dX0_fastOf_20 (by first | rfl | omega) (by omega) (by omega) (by omega) rfl rfl ?_
      refine f_iload hZ dX0_fastOf_91 rfl ?_
      refine f_iload_n hZ dX0_fastOf_93 rfl ?_
      refine f_iconst hZ dX0_fastOf_94 ?_
      refine f_idiv hZ dX0_fastOf_95 (by omega) (by omega) (by omega) (by omega) ?_
      refine f_isub hZ dX0_fastOf_96 ?_
      exact f_retI hZ hR dX0_fastOf_97 rfl (by omega) (by refine ⟨rfl, ?_⟩; unfold fastB; (repeat' split) <;> omega)

set_option maxRecDepth 20000 in
set_option maxHeartbeats 4000000 in
theorem t_X0_fast {X : fX} {M : fM} {d c : Nat} (hC : isC c) {w l e : Int} (hw : rg w) (hl : 0 ≤ l ∧ l ≤ 2) (he : 0 ≤ e ∧ e ≤ 9) (hn : 0 ≤ M c 5 ∧ M c 5 ≤ 4) (hA : WfA (M c 5) (M (c + 1)) (M (c + 2)) (M (c + 3)) (M (c + 4)) (M (c + 5))) : fC X (d + 1) mX0_fast [.ref (xa X c), .int (iv w), .int (iv l), .int (iv e)] M (QI fun r M' => M' = M ∧ r = if 0 ≤ w ∧ w < M c 5 then fastZ (M (c + 1) w) (M (c + 2) w) l e else 0) := by
  refine fC.of (L := [_, _, _, _]) (by decide +kernel) rfl (Nat.le_of_ble_eq_true rfl) (fun Z hZ hR => ?_)
  refine f_iload_n hZ dX0_fast_0 rfl ?_
  refine f_le (tgt := 12) hZ dX0_fast_1 rfl (by omega) (fun h1 => ?_) (fun h1 => ?_)
  · refine f_iconst hZ dX0_fast_12 ?_
    refine f_goto (tgt := 37) hZ dX0_fast_13 rfl ?_
    exact f_retI hZ hR dX0_fast_37 rfl (by omega) (by refine ⟨rfl, ?_⟩; first | (rw [if_neg (by omega)]; done) | (rw [if_pos (by omega)]; unfold fastZ; first | (rw [if_pos (by omega)]; done) | (rw [if_neg (by omega)]; done)) | (split <;> first | rfl | (unfold fastZ; rw [if_pos (by omega)])))
  · refine f_aload_n hZ dX0_fast_4 rfl ?_
    refine f_iload_n hZ dX0_fast_5 rfl ?_
    refine vX0_40 hZ dX0_fast_6 (by first | exact hC | exact isC1 | exact isC7 | exact isC13) (t_X0_has hC (by omega) (by omega)) (fun a6 M6 r6 h6 => ?_)
    obtain ⟨e6, h6⟩ := h6
    replace e6 := e6.symm
    subst e6
    refine f_ne (tgt := 16) hZ dX0_fast_9 rfl (by omega) (fun h9 => ?_) (fun h9 => ?_)
    · have hq := hA w (by omega) (by omega)
      refine f_iconst hZ dX0_fast_16 ?_
      refine f_aload_n hZ dX0_fast_17 rfl ?_
      refine gX0_9 hZ dX0_fast_18 (by first | exact hC | exact isC1 | exact isC7 | exact isC13) ?_
      refine f_iload_n hZ dX0_fast_21 rfl ?_
      refine f_iaload hZ dX0_fast_22 (by first | rfl | exact hC.t1 | exact hC.t2 | exact hC.t3 | exact hC.t4 | exact hC.t5) (by first | rfl | exact hC.l1 | exact hC.l2 | exact hC.l3 | exact hC.l4 | exact hC.l5) (by omega) (by omega) (fun r22 => ?_)
      refine f_aload_n hZ dX0_fast_23 rfl ?_
      refine gX0_15 hZ dX0_fast_24 (by first | exact hC | exact isC1 | exact isC7 | exact isC13) ?_
      refine f_iload_n hZ dX0_fast_27 rfl ?_
      refine f_iaload hZ dX0_fast_28 (by first | rfl | exact hC.t1 | exact hC.t2 | exact hC.t3 | exact hC.t4 | exact hC.t5) (by first | rfl | exact hC.l1 | exact hC.l2 | exact hC.l3 | exact hC.l4 | exact hC.l5) (by omega) (by omega) (fun r28 => ?_)
      refine f_iload_n hZ dX0_fast_29 rfl ?_
      refine f_iload_n hZ dX0_fast_30 rfl ?_
      refine sX0_50 hZ dX0_fast_31 (t_X0_fastOf (by omega) (by omega) (by omega) (by omega)) (fun a31 M31 r31 h31 => ?_)
      obtain ⟨e31, h31⟩ := h31
      replace e31 := e31.symm
      subst e31
      subst h31
      have hB : -9 ≤ fastB (M (c + 1) w) (M (c + 2) w) l e ∧ fastB (M (c + 1) w) (M (c + 2) w) l e ≤ 9 := by
          have h3 := tmod3 hq.2.1.1
          have h2 := tdiv2 he.1
          unfold fastB; (repeat' split) <;> omega
      refine f_max hZ dX0_fast_34 wk_X0_54 (by omega) (by omega) (Nat.le_of_ble_eq_true rfl) ?_
      exact f_retI hZ hR dX0_fast_37 rfl (by omega) (by refine ⟨rfl, ?_⟩; first | (rw [if_neg (by omega)]; done) | (rw [if_pos (by omega)]; unfold fastZ; first | (rw [if_pos (by omega)]; done) | (rw [if_neg (by omega)]; done)) | (split <;> first | rfl | (unfold fastZ; rw [if_pos (by omega)])))
    · refine f_iconst hZ dX0_fast_12 ?_
      refine f_goto (tgt := 37) hZ dX0_fast_13 rfl ?_
      exact f_retI hZ hR dX0_fast_37 rfl (by omega) (by refine ⟨rfl, ?_⟩; first | (rw [if_neg (by omega)]; done) | (rw [if_pos (by omega)]; unfold fastZ; first | (rw [if_pos (by omega)]; done) | (rw [if_neg (by omega)]; done)) | (split <;> first | rfl | (unfold fastZ; rw [if_pos (by omega)])))

set_option maxRecDepth 20000 in
set_option maxHeartbeats 4000000 in
theorem t_X0_ashOf {X : fX} {M : fM} {d : Nat} {k n b : Int} (hk : 0 ≤ k ∧ k ≤ 5) (hu : 0 ≤ n ∧ n ≤ 9) (hb : 0 ≤ b ∧ b ≤ 999) : fC X d mX0_ashOf [.int (iv k), .int (iv n), .int (iv b)] M (QI fun r M' => M' = M ∧ r = ashB k n b) := by
  have h3 := tdiv3 hb.1
  have h2 := tdiv2 hb.1
  refine fC.of (L := [_, _, _, _, _]) (by decide +kernel) rfl (Nat.le_of_ble_eq_true rfl) (fun Z hZ hR => ?_)
  rcases (show k = 0 ∨ k = 1 ∨ k = 2 ∨ k = 3 ∨ k = 4 ∨ k = 5 by omega) with rfl | rfl | rfl | rfl | rfl | rfl
  · refine f_iload_n hZ dX0_ashOf_0 rfl ?_
    refine f_iconst hZ dX0_ashOf_1 ?_
    refine f_idiv hZ dX0_ashOf_2 (by omega) (by omega) (by omega) (by omega) ?_
    refine f_istore_n (L' := [_, _, _, _, _]) hZ dX0_ashOf_3 rfl rfl ?_
    refine f_iload_n hZ dX0_ashOf_4 rfl ?_
    refine f_iload_n hZ dX0_ashOf_5 rfl ?_
    refine f_iadd hZ dX0_ashOf_6 ?_
    refine f_istore (L' := [_, _, _, _, _]) hZ dX0_ashOf_7 rfl rfl ?_
    refine f_iload_n hZ dX0_ashOf_9 rfl ?_
    refine f_tswOut (tgt := 64) hZ dX0_ashOf_10 (by omega) (by omega) rfl ?_
    refine f_iload_n hZ dX0_ashOf_64 rfl ?_
    exact f_retI hZ hR dX0_ashOf_65 rfl (by omega) (by exact ⟨rfl, rfl⟩)
  · refine f_iload_n hZ dX0_ashOf_0 rfl ?_
    refine f_iconst hZ dX0_ashOf_1 ?_
    refine f_idiv hZ dX0_ashOf_2 (by omega) (by omega) (by omega) (by omega) ?_
    refine f_istore_n (L' := [_, _, _, _, _]) hZ dX0_ashOf_3 rfl rfl ?_
    refine f_iload_n hZ dX0_ashOf_4 rfl ?_
    refine f_iload_n hZ dX0_ashOf_5 rfl ?_
    refine f_iadd hZ dX0_ashOf_6 ?_
    refine f_istore (L' := [_, _, _, _, _]) hZ dX0_ashOf_7 rfl rfl ?_
    refine f_iload_n hZ dX0_ashOf_9 rfl ?_
    refine f_tswIn (tgt := 44) hZ (1) dX0_ashOf_10 (by first | rfl | omega) (by omega) (by omega) (by omega) rfl rfl ?_
    refine f_iload_n hZ dX0_ashOf_44 rfl ?_
    exact f_retI hZ hR dX0_ashOf_45 rfl (by omega) (by exact ⟨rfl, rfl⟩)
  · refine f_iload_n hZ dX0_ashOf_0 rfl ?_
    refine f_iconst hZ dX0_ashOf_1 ?_
    refine f_idiv hZ dX0_ashOf_2 (by omega) (by omega) (by omega) (by omega) ?_
    refine f_istore_n (L' := [_, _, _, _, _]) hZ dX0_ashOf_3 rfl rfl ?_
    refine f_iload_n hZ dX0_ashOf_4 rfl ?_
    refine f_iload_n hZ dX0_ashOf_5 rfl ?_
    refine f_iadd hZ dX0_ashOf_6 ?_
    refine f_istore (L' := [_, _, _, _, _]) hZ dX0_ashOf_7 rfl rfl ?_
    refine f_iload_n hZ dX0_ashOf_9 rfl ?_
    refine f_tswIn (tgt := 46) hZ (2) dX0_ashOf_10 (by first | rfl | omega) (by omega) (by omega) (by omega) rfl rfl ?_
    refine f_iload hZ dX0_ashOf_46 rfl ?_
    exact f_retI hZ hR dX0_ashOf_48 rfl (by omega) (by exact ⟨rfl, rfl⟩)
  · refine f_iload_n hZ dX0_ashOf_0 rfl ?_
    refine f_iconst hZ dX0_ashOf_1 ?_
    refine f_idiv hZ dX0_ashOf_2 (by omega) (by omega) (by omega) (by omega) ?_
    refine f_istore_n (L' := [_, _, _, _, _]) hZ dX0_ashOf_3 rfl rfl ?_
    refine f_iload_n hZ dX0_ashOf_4 rfl ?_
    refine f_iload_n hZ dX0_ashOf_5 rfl ?_
    refine f_iadd hZ dX0_ashOf_6 ?_
    refine f_istore (L' := [_, _, _, _, _]) hZ dX0_ashOf_7 rfl rfl ?_
    refine f_iload_n hZ dX0_ashOf_9 rfl ?_
    refine f_tswIn (tgt := 49) hZ (3) dX0_ashOf_10 (by first | rfl | omega) (by omega) (by omega) (by omega) rfl rfl ?_
    refine f_iload_n hZ dX0_ashOf_49 rfl ?_
    refine f_iload_n hZ dX0_ashOf_50 rfl ?_
    refine f_isub hZ dX0_ashOf_51 ?_
    exact f_retI hZ hR dX0_ashOf_52 rfl (by omega) (by exact ⟨rfl, rfl⟩)
  · refine f_iload_n hZ dX0_ashOf_0 rfl ?_
    refine f_iconst hZ dX0_ashOf_1 ?_
    refine f_idiv hZ dX0_ashOf_2 (by omega) (by omega) (by omega) (by omega) ?_
    refine f_istore_n (L' := [_, _, _, _, _]) hZ dX0_ashOf_3 rfl rfl ?_
    refine f_iload_n hZ dX0_ashOf_4 rfl ?_
    refine f_iload_n hZ dX0_ashOf_5 rfl ?_
    refine f_iadd hZ dX0_ashOf_6 ?_
    refine f_istore (L' := [_, _, _, _, _]) hZ dX0_ashOf_7 rfl rfl ?_
    refine f_iload_n hZ dX0_ashOf_9 rfl ?_
    refine f_tswIn (tgt := 53) hZ (4) dX0_ashOf_10 (by first | rfl | omega) (by omega) (by omega) (by omega) rfl rfl ?_
    refine f_iconst hZ dX0_ashOf_53 ?_
    refine f_iload hZ dX0_ashOf_54 rfl ?_
    refine f_imul hZ dX0_ashOf_56 ?_
    exact f_retI hZ hR dX0_ashOf_57 rfl (by omega) (by exact ⟨rfl, rfl⟩)
  · refine f_iload_n hZ dX0_ashOf_0 rfl ?_
    refine f_iconst hZ dX0_ashOf_1 ?_
    refine f_idiv hZ dX0_ashOf_2 (by omega) (by omega) (by omega) (by omega) ?_
    refine f_istore_n (L' := [_, _, _, _, _]) hZ dX0_ashOf_3 rfl rfl ?_
    refine f_iload_n hZ dX0_ashOf_4 rfl ?_
    refine f_iload_n hZ dX0_ashOf_5 rfl ?_
    refine f_iadd hZ dX0_ashOf_6 ?_
    refine f_istore (L' := [_, _, _, _, _]) hZ dX0_ashOf_7 rfl rfl ?_
    refine f_iload_n hZ dX0_ashOf_9 rfl ?_
    refine f_tswIn (tgt := 58) hZ (5) dX0_ashOf_10 (by first | rfl | omega) (by omega) (by omega) (by omega) rfl rfl ?_
    refine f_iload_n hZ dX0_ashOf_58 rfl ?_
    refine f_iload_n hZ dX0_ashOf_59 rfl ?_
    refine f_iconst hZ dX0_ashOf_60 ?_
    refine f_idiv hZ dX0_ashOf_61 (by omega) (by omega) (by omega) (by omega) ?_
    refine f_iadd hZ dX0_ashOf_62 ?_
    exact f_retI hZ hR dX0_ashOf_63 rfl (by omega) (by exact ⟨rfl, rfl⟩)

set_option maxRecDepth 20000 in
set_option maxHeartbeats 4000000 in
theorem t_X0_ash {X : fX} {M : fM} {d c : Nat} (hC : isC c) {w b : Int} (hw : 0 ≤ w ∧ w < M c 5) (hb : 0 ≤ b ∧ b ≤ 999) (hn : 0 ≤ M c 5 ∧ M c 5 ≤ 4) (hA : WfA (M c 5) (M (c + 1)) (M (c + 2)) (M (c + 3)) (M (c + 4)) (M (c + 5))) : fC X (d + 1) mX0_ash [.ref (xa X c), .int (iv w), .int (iv b)] M (QI fun r M' => M' = M ∧ r = ashZ (M (c + 1) w) (M (c + 2) w) b) := by
  refine fC.of (L := [_, _, _]) (by decide +kernel) rfl (Nat.le_of_ble_eq_true rfl) (fun Z hZ hR => ?_)
  refine f_aload_n hZ dX0_ash_0 rfl ?_
  refine f_iload_n hZ dX0_ash_1 rfl ?_
  refine vX0_40 hZ dX0_ash_2 (by first | exact hC | exact isC1 | exact isC7 | exact isC13) (t_X0_has hC (by omega) (by omega)) (fun a2 M2 r2 h2 => ?_)
  obtain ⟨e2, h2⟩ := h2
  replace e2 := e2.symm
  subst e2
  refine f_eq (tgt := 31) hZ dX0_ash_5 rfl (by omega) (fun h5 => ?_) (fun h5 => ?_)
  · exfalso; omega
  · have hq := hA w (by omega) (by omega)
    refine f_iconst hZ dX0_ash_8 ?_
    refine f_aload_n hZ dX0_ash_9 rfl ?_
    refine gX0_9 hZ dX0_ash_10 (by first | exact hC | exact isC1 | exact isC7 | exact isC13) ?_
    refine f_iload_n hZ dX0_ash_13 rfl ?_
    refine f_iaload hZ dX0_ash_14 (by first | rfl | exact hC.t1 | exact hC.t2 | exact hC.t3 | exact hC.t4 | exact hC.t5) (by first | rfl | exact hC.l1 | exact hC.l2 | exact hC.l3 | exact hC.l4 | exact hC.l5) (by omega) (by omega) (fun r14 => ?_)
    refine f_aload_n hZ dX0_ash_15 rfl ?_
    refine gX0_15 hZ dX0_ash_16 (by first | exact hC | exact isC1 | exact isC7 | exact isC13) ?_
    refine f_iload_n hZ dX0_ash_19 rfl ?_
    refine f_iaload hZ dX0_ash_20 (by first | rfl | exact hC.t1 | exact hC.t2 | exact hC.t3 | exact hC.t4 | exact hC.t5) (by first | rfl | exact hC.l1 | exact hC.l2 | exact hC.l3 | exact hC.l4 | exact hC.l5) (by omega) (by omega) (fun r20 => ?_)
    refine f_iload_n hZ dX0_ash_21 rfl ?_
    refine sX0_60 hZ dX0_ash_22 (t_X0_ashOf (by omega) (by omega) (by omega)) (fun a22 M22 r22 h22 => ?_)
    obtain ⟨e22, h22⟩ := h22
    replace e22 := e22.symm
    subst e22
    subst h22
    have hB : -9 ≤ ashB (M (c + 1) w) (M (c + 2) w) b ∧ ashB (M (c + 1) w) (M (c + 2) w) b ≤ 9999 := by
      have h3 := tdiv3 hb.1
      have h2 := tdiv2 hb.1
      unfold ashB; (repeat' split) <;> omega
    refine f_max hZ dX0_ash_25 wk_X0_54 (by omega) (by omega) (Nat.le_of_ble_eq_true rfl) ?_
    refine f_goto (tgt := 32) hZ dX0_ash_28 rfl ?_
    exact f_retI hZ hR dX0_ash_32 rfl (by omega) (by exact ⟨rfl, rfl⟩)

set_option maxRecDepth 20000 in
set_option maxHeartbeats 4000000 in
theorem t_X0_lasts {X : fX} {M : fM} {d c : Nat} (hC : isC c) {w l e : Int} (hw : 0 ≤ w ∧ w < M c 5) (hl : 0 ≤ l ∧ l ≤ 2) (he : 0 ≤ e ∧ e ≤ 9) (hn : 0 ≤ M c 5 ∧ M c 5 ≤ 4) (hA : WfA (M c 5) (M (c + 1)) (M (c + 2)) (M (c + 3)) (M (c + 4)) (M (c + 5))) : fC X (d + 2) mX0_lasts [.ref (xa X c), .int (iv w), .int (iv l), .int (iv e)] M (QI fun r M' => M' = M ∧ r = if l = 0 then 0 else lastZ (M (c + 3) w) (fastZ (M (c + 1) w) (M (c + 2) w) l e)) := by
  refine fC.of (L := [_, _, _, _, _]) (by decide +kernel) rfl (Nat.le_of_ble_eq_true rfl) (fun Z hZ hR => ?_)
  have hq := hA w (by omega) (by omega)
  refine f_aload_n hZ dX0_lasts_0 rfl ?_
  refine f_iload_n hZ dX0_lasts_1 rfl ?_
  refine f_iload_n hZ dX0_lasts_2 rfl ?_
  refine f_iload_n hZ dX0_lasts_3 rfl ?_
  refine vX0_64 hZ dX0_lasts_4 (by first | exact hC | exact isC1 | exact isC7 | exact isC13) (t_X0_fast hC (by omega) (by omega) (by omega) (by omega) hA) (fun a4 M4 r4 h4 => ?_)
  obtain ⟨e4, h4⟩ := h4
  replace e4 := e4.symm
  subst e4
  rw [if_pos hw] at h4
  have hF := fastZ_rg (k := M (c + 1) w) (n := M (c + 2) w) (l := l) (by omega) (by omega) he
  have hF0 : l = 0 → fastZ (M (c + 1) w) (M (c + 2) w) l e = 0 := fun q => by rw [q]; rfl
  have hq3 := hq.2.2.1
  subst h4
  refine f_istore (L' := [_, _, _, _, _]) hZ dX0_lasts_7 rfl rfl ?_
  refine f_iload hZ dX0_lasts_9 rfl ?_
  refine f_gt (tgt := 18) hZ dX0_lasts_11 rfl (by first | omega | exact rg_tdiv (by omega) (by omega)) (fun h11 => ?_) (fun h11 => ?_)
  · refine f_aload_n hZ dX0_lasts_18 rfl ?_
    refine gX0_18 hZ dX0_lasts_19 (by first | exact hC | exact isC1 | exact isC7 | exact isC13) ?_
    refine f_iload_n hZ dX0_lasts_22 rfl ?_
    refine f_iaload hZ dX0_lasts_23 (by first | rfl | exact hC.t1 | exact hC.t2 | exact hC.t3 | exact hC.t4 | exact hC.t5) (by first | rfl | exact hC.l1 | exact hC.l2 | exact hC.l3 | exact hC.l4 | exact hC.l5) (by first | omega | exact rg_tdiv (by omega) (by omega)) (by first | omega | exact rg_tdiv (by omega) (by omega)) (fun r23 => ?_)
    refine f_iload hZ dX0_lasts_24 rfl ?_
    refine f_iadd hZ dX0_lasts_26 ?_
    refine f_iconst hZ dX0_lasts_27 ?_
    refine f_isub hZ dX0_lasts_28 ?_
    refine f_iload hZ dX0_lasts_29 rfl ?_
    refine f_idiv hZ dX0_lasts_31 (by first | omega | exact rg_tdiv (by omega) (by omega)) (by first | omega | exact rg_tdiv (by omega) (by omega)) (by first | omega | exact rg_tdiv (by omega) (by omega)) (by first | omega | exact rg_tdiv (by omega) (by omega)) ?_
    exact f_retI hZ hR dX0_lasts_32 rfl (by first | omega | exact rg_tdiv (by omega) (by omega)) (by refine ⟨rfl, ?_⟩; first | (rw [if_pos (by omega)]; done) | (rw [if_neg (by omega)]; rfl))
  · refine f_iconst hZ dX0_lasts_14 ?_
    refine f_goto (tgt := 32) hZ dX0_lasts_15 rfl ?_
    exact f_retI hZ hR dX0_lasts_32 rfl (by first | omega | exact rg_tdiv (by omega) (by omega)) (by refine ⟨rfl, ?_⟩; first | (rw [if_pos (by omega)]; done) | (rw [if_neg (by omega)]; rfl))

set_option maxRecDepth 20000 in
set_option maxHeartbeats 4000000 in
theorem t_X0_kindles {X : fX} {M : fM} {d c : Nat} (hC : isC c) {w e : Int} (hw : 0 ≤ w ∧ w < M c 5) (he : 1 ≤ e ∧ e ≤ 2) (hn : 0 ≤ M c 5 ∧ M c 5 ≤ 4) (hA : WfA (M c 5) (M (c + 1)) (M (c + 2)) (M (c + 3)) (M (c + 4)) (M (c + 5))) : fC X (d + 1) mX0_kindles [.ref (xa X c), .int (iv w), .int (iv e)] M (QI fun r M' => (r = 0 ∧ ¬ (0 < M (c + 3) w ∧ M (c + 4) w + e ≤ 2) ∧ M' = M) ∨ (r = 1 ∧ (0 < M (c + 3) w ∧ M (c + 4) w + e ≤ 2) ∧ M' = up M (c + 4) w (M (c + 4) w + e))) := by
  refine fC.of (L := [_, _, _]) (by decide +kernel) rfl (Nat.le_of_ble_eq_true rfl) (fun Z hZ hR => ?_)
  refine f_aload_n hZ dX0_kindles_0 rfl ?_
  refine f_iload_n hZ dX0_kindles_1 rfl ?_
  refine vX0_40 hZ dX0_kindles_2 (by first | exact hC | exact isC1 | exact isC7 | exact isC13) (t_X0_has hC (by omega) (by omega)) (fun a2 M2 r2 h2 => ?_)
  obtain ⟨e2, h2⟩ := h2
  replace e2 := e2.symm
  subst e2
  refine f_eq (tgt := 29) hZ dX0_kindles_5 rfl (by omega) (fun h5 => ?_) (fun h5 => ?_)
  · refine f_iconst hZ dX0_kindles_29 ?_
    exact f_retZ hZ hR dX0_kindles_30 rfl (by omega) (by first | exact Or.inl ⟨rfl, by omega, rfl⟩ | exact Or.inr ⟨rfl, by omega, rfl⟩)
  · have hq := hA w (by omega) (by omega)
    refine f_aload_n hZ dX0_kindles_8 rfl ?_
    refine gX0_18 hZ dX0_kindles_9 (by first | exact hC | exact isC1 | exact isC7 | exact isC13) ?_
    refine f_iload_n hZ dX0_kindles_12 rfl ?_
    refine f_iaload hZ dX0_kindles_13 (by first | rfl | exact hC.t1 | exact hC.t2 | exact hC.t3 | exact hC.t4 | exact hC.t5) (by first | rfl | exact hC.l1 | exact hC.l2 | exact hC.l3 | exact hC.l4 | exact hC.l5) (by omega) (by omega) (fun r13 => ?_)
    refine f_eq (tgt := 29) hZ dX0_kindles_14 rfl (by omega) (fun h14 => ?_) (fun h14 => ?_)
    · refine f_iconst hZ dX0_kindles_29 ?_
      exact f_retZ hZ hR dX0_kindles_30 rfl (by omega) (by first | exact Or.inl ⟨rfl, by omega, rfl⟩ | exact Or.inr ⟨rfl, by omega, rfl⟩)
    · refine f_aload_n hZ dX0_kindles_17 rfl ?_
      refine gX0_21 hZ dX0_kindles_18 (by first | exact hC | exact isC1 | exact isC7 | exact isC13) ?_
      refine f_iload_n hZ dX0_kindles_21 rfl ?_
      refine f_iaload hZ dX0_kindles_22 (by first | rfl | exact hC.t1 | exact hC.t2 | exact hC.t3 | exact hC.t4 | exact hC.t5) (by first | rfl | exact hC.l1 | exact hC.l2 | exact hC.l3 | exact hC.l4 | exact hC.l5) (by omega) (by omega) (fun r22 => ?_)
      refine f_iload_n hZ dX0_kindles_23 rfl ?_
      refine f_iadd hZ dX0_kindles_24 ?_
      refine f_iconst hZ dX0_kindles_25 ?_
      refine f_ile (tgt := 31) hZ dX0_kindles_26 rfl (by omega) (by omega) (fun h26 => ?_) (fun h26 => ?_)
      · refine f_aload_n hZ dX0_kindles_31 rfl ?_
        refine gX0_21 hZ dX0_kindles_32 (by first | exact hC | exact isC1 | exact isC7 | exact isC13) ?_
        refine f_iload_n hZ dX0_kindles_35 rfl ?_
        refine f_dup2 hZ dX0_kindles_36 rfl rfl ?_
        refine f_iaload hZ dX0_kindles_37 (by first | rfl | exact hC.t1 | exact hC.t2 | exact hC.t3 | exact hC.t4 | exact hC.t5) (by first | rfl | exact hC.l1 | exact hC.l2 | exact hC.l3 | exact hC.l4 | exact hC.l5) (by omega) (by omega) (fun r37 => ?_)
        refine f_iload_n hZ dX0_kindles_38 rfl ?_
        refine f_iadd hZ dX0_kindles_39 ?_
        refine f_iastore hZ dX0_kindles_40 (by first | rfl | exact hC.t1 | exact hC.t2 | exact hC.t3 | exact hC.t4 | exact hC.t5) (by first | rfl | exact hC.l1 | exact hC.l2 | exact hC.l3 | exact hC.l4 | exact hC.l5) (by omega) (by omega) (by omega) ?_
        refine f_iconst hZ dX0_kindles_41 ?_
        exact f_retZ hZ hR dX0_kindles_42 rfl (by omega) (by first | exact Or.inl ⟨rfl, by omega, rfl⟩ | exact Or.inr ⟨rfl, by omega, rfl⟩)
      · refine f_iconst hZ dX0_kindles_29 ?_
        exact f_retZ hZ hR dX0_kindles_30 rfl (by omega) (by first | exact Or.inl ⟨rfl, by omega, rfl⟩ | exact Or.inr ⟨rfl, by omega, rfl⟩)

