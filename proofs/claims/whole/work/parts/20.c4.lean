abbrev WfK (M : fM) : Prop := WfC M 1
theorem WfK.n {M : fM} (h : WfK M) : 0 ≤ M 1 5 ∧ M 1 5 ≤ 4 := h.1
theorem WfK.A {M : fM} (h : WfK M) : WfA (M 1 5) (M 2) (M 3) (M 4) (M 5) (M 6) := h.2.2.2
def addK (M : fM) (k n p : Int) : fM := up (up (up (up (up (up (fgt M) 2 (M 1 5) k) 3 (M 1 5) n) 4 (M 1 5) p) 5 (M 1 5) 0) 6 (M 1 5) 0) 1 5 (M 1 5 + 1)
set_option maxRecDepth 20000 in
set_option maxHeartbeats 4000000 in
theorem t_X6_wick {X : fX} {M : fM} {d : Nat} {k n p : Int} (hk : rg k) (hnu : rg n) (hp : rg p) (hn : 0 ≤ M 1 5 ∧ M 1 5 ≤ 4) : fC X (d + 1) mX6_wick [.ref (xa X 0), .int (iv k), .int (iv n), .int (iv p)] M (QI fun r M' => (¬ wickOk k n p ∧ r = -2 ∧ M' = M) ∨ (wickOk k n p ∧ M 1 5 = 4 ∧ r = -4 ∧ M' = M) ∨ (wickOk k n p ∧ M 1 5 < 4 ∧ r = M 1 5 ∧ M' = addK M k n p)) := by
  refine fC.of (L := [_, _, _, _]) (by decide +kernel) rfl (Nat.le_of_ble_eq_true rfl) (fun Z hZ hR => ?_)
  refine f_iload_n hZ dX6_wick_0 rfl ?_
  refine f_iconst hZ dX6_wick_1 ?_
  refine f_iconst hZ dX6_wick_2 ?_
  refine sX6_56 hZ dX6_wick_3 (t_X6_within (by omega) (by omega) (by omega)) (fun a3 M3 r3 h3 => ?_)
  obtain ⟨e3, h3⟩ := h3
  replace e3 := e3.symm
  subst e3
  refine f_eq (tgt := 29) hZ dX6_wick_6 rfl (by omega) (fun h6 => ?_) (fun h6 => ?_)
  · refine f_bipush hZ dX6_wick_29 ?_
    exact f_retI hZ hR dX6_wick_31 rfl (by omega) (by first | exact Or.inl ⟨by omega, rfl, rfl⟩ | exact Or.inr (Or.inl ⟨by omega, by omega, rfl, rfl⟩) | exact Or.inr (Or.inr ⟨by omega, by omega, by omega, rfl⟩))
  · refine f_iload_n hZ dX6_wick_9 rfl ?_
    refine f_iconst hZ dX6_wick_10 ?_
    refine f_bipush hZ dX6_wick_11 ?_
    refine sX6_56 hZ dX6_wick_13 (t_X6_within (by omega) (by omega) (by omega)) (fun a13 M13 r13 h13 => ?_)
    obtain ⟨e13, h13⟩ := h13
    replace e13 := e13.symm
    subst e13
    refine f_eq (tgt := 29) hZ dX6_wick_16 rfl (by omega) (fun h16 => ?_) (fun h16 => ?_)
    · refine f_bipush hZ dX6_wick_29 ?_
      exact f_retI hZ hR dX6_wick_31 rfl (by omega) (by first | exact Or.inl ⟨by omega, rfl, rfl⟩ | exact Or.inr (Or.inl ⟨by omega, by omega, rfl, rfl⟩) | exact Or.inr (Or.inr ⟨by omega, by omega, by omega, rfl⟩))
    · refine f_iload_n hZ dX6_wick_19 rfl ?_
      refine f_iconst hZ dX6_wick_20 ?_
      refine f_bipush hZ dX6_wick_21 ?_
      refine sX6_56 hZ dX6_wick_23 (t_X6_within (by omega) (by omega) (by omega)) (fun a23 M23 r23 h23 => ?_)
      obtain ⟨e23, h23⟩ := h23
      replace e23 := e23.symm
      subst e23
      refine f_ne (tgt := 32) hZ dX6_wick_26 rfl (by omega) (fun h26 => ?_) (fun h26 => ?_)
      · refine f_aload_n hZ dX6_wick_32 rfl ?_
        refine gX6_10 hZ dX6_wick_33 ?_
        refine gX6_60_1 hZ dX6_wick_36 (fun r36 => ?_)
        refine f_iconst hZ dX6_wick_39 ?_
        refine f_ilt (tgt := 46) hZ dX6_wick_40 rfl (by omega) (by omega) (fun h40 => ?_) (fun h40 => ?_)
        · refine f_aload_n hZ dX6_wick_46 rfl ?_
          refine gX6_34 hZ dX6_wick_47 ?_
          refine vX6_64 hZ dX6_wick_50 (t_X4_forget) (fun M50 h50 => ?_)
          subst h50
          refine f_aload_n hZ dX6_wick_53 rfl ?_
          refine gX6_10 hZ dX6_wick_54 ?_
          refine f_iload_n hZ dX6_wick_57 rfl ?_
          refine f_iload_n hZ dX6_wick_58 rfl ?_
          refine f_iload_n hZ dX6_wick_59 rfl ?_
          refine vX6_67 hZ dX6_wick_60 (by first | exact hC | exact isC1 | exact isC7 | exact isC13) (t_X0_add isC1 (by omega) (by omega) (by omega) ⟨hn.1, (by omega : M 1 5 < 4)⟩) (fun a60 M60 r60 h60 => ?_)
          try simp only [Nat.reduceAdd] at h60
          obtain ⟨rfl, h60⟩ := h60
          replace h60 : a60 = M 1 5 := h60
          exact f_retI hZ hR dX6_wick_63 rfl (by omega) (by first | exact Or.inl ⟨by omega, rfl, rfl⟩ | exact Or.inr (Or.inl ⟨by omega, by omega, rfl, rfl⟩) | exact Or.inr (Or.inr ⟨by omega, by omega, by omega, rfl⟩))
        · refine f_bipush hZ dX6_wick_43 ?_
          exact f_retI hZ hR dX6_wick_45 rfl (by omega) (by first | exact Or.inl ⟨by omega, rfl, rfl⟩ | exact Or.inr (Or.inl ⟨by omega, by omega, rfl, rfl⟩) | exact Or.inr (Or.inr ⟨by omega, by omega, by omega, rfl⟩))
      · refine f_bipush hZ dX6_wick_29 ?_
        exact f_retI hZ hR dX6_wick_31 rfl (by omega) (by first | exact Or.inl ⟨by omega, rfl, rfl⟩ | exact Or.inr (Or.inl ⟨by omega, by omega, rfl, rfl⟩) | exact Or.inr (Or.inr ⟨by omega, by omega, by omega, rfl⟩))

def setK (M : fM) (q of v : Int) : fM := if q = 4 then up (fgt M) 1 6 v else if q = 5 then up (fgt M) 1 7 v else chgM (fgt M) 1 q of v
set_option maxRecDepth 20000 in
set_option maxHeartbeats 4000000 in
theorem t_X6_set {X : fX} {M : fM} {d : Nat} {q of v : Int} (hq : rg q) (ho : rg of) (hv : rg v) (hn : 0 ≤ M 1 5 ∧ M 1 5 ≤ 4) : fC X (d + 2) mX6_set [.ref (xa X 0), .int (iv q), .int (iv of), .int (iv v)] M (QI fun r M' => (¬ setOk (M 1 5) q of v ∧ r = -2 ∧ M' = M) ∨ (setOk (M 1 5) q of v ∧ (q = 1 ∧ 0 < v ∧ M 4 of = 0) ∧ r = -3 ∧ M' = M) ∨ (setOk (M 1 5) q of v ∧ ¬ (q = 1 ∧ 0 < v ∧ M 4 of = 0) ∧ r = setR (M 3) (M 4) (M 5) (M 6) (M 1 6) (M 1 7) q of ∧ M' = setK M q of v)) := by
  refine fC.of (L := [_, _, _, _]) (by decide +kernel) rfl (Nat.le_of_ble_eq_true rfl) (fun Z hZ hR => ?_)
  rcases (show (q < 0 ∨ 5 < q) ∨ q = 0 ∨ q = 1 ∨ q = 2 ∨ q = 3 ∨ q = 4 ∨ q = 5 by omega) with hqq | rfl | rfl | rfl | rfl | rfl | rfl
  · refine f_iload_n hZ dX6_set_0 rfl ?_
    refine f_iconst hZ dX6_set_1 ?_
    refine f_iconst hZ dX6_set_2 ?_
    refine sX6_56 hZ dX6_set_3 (t_X6_within (by omega) (by omega) (by omega)) (fun a3 M3 r3 h3 => ?_)
    obtain ⟨e3, h3⟩ := h3
    replace e3 := e3.symm
    subst e3
    refine f_eq (tgt := 37) hZ dX6_set_6 rfl (by omega) (fun h6 => ?_) (fun h6 => ?_)
    · refine f_bipush hZ dX6_set_37 ?_
      exact f_retI hZ hR dX6_set_39 rfl (by omega) (by exact Or.inl ⟨fun hs => by have := hs.1; omega, rfl, rfl⟩)
    · exfalso; omega
  · have hok : setOk (M 1 5) 0 of v = ((0 ≤ (0 : Int) ∧ (0 : Int) ≤ 5) ∧ ((0 : Int) < 4 → 0 ≤ of ∧ of < M 1 5) ∧ 0 ≤ v ∧ v ≤ 99) := rfl
    refine f_iload_n hZ dX6_set_0 rfl ?_
    refine f_iconst hZ dX6_set_1 ?_
    refine f_iconst hZ dX6_set_2 ?_
    refine sX6_56 hZ dX6_set_3 (t_X6_within (by omega) (by omega) (by omega)) (fun a3 M3 r3 h3 => ?_)
    obtain ⟨e3, h3⟩ := h3
    replace e3 := e3.symm
    subst e3
    refine f_eq (tgt := 37) hZ dX6_set_6 rfl (by omega) (fun h6 => ?_) (fun h6 => ?_)
    · refine f_bipush hZ dX6_set_37 ?_
      exact f_retI hZ hR dX6_set_39 rfl (by omega) (by first | exact Or.inl ⟨by rw [hok]; omega, rfl, rfl⟩ | exact Or.inr (Or.inl ⟨by rw [hok]; omega, by omega, rfl, rfl⟩) | exact Or.inr (Or.inr ⟨by rw [hok]; omega, by omega, by first | rfl | assumption, by first | rfl | assumption⟩))
    · refine f_iload_n hZ dX6_set_9 rfl ?_
      refine f_iconst hZ dX6_set_10 ?_
      refine f_iload_n hZ dX6_set_11 rfl ?_
      refine sX6_71 hZ dX6_set_12 (t_X6_mostOf (by omega)) (fun a12 M12 r12 h12 => ?_)
      obtain ⟨e12, h12⟩ := h12
      replace e12 := e12.symm
      subst e12
      replace h12 : a12 = 99 := h12
      subst h12
      refine sX6_56 hZ dX6_set_15 (t_X6_within (by omega) (by omega) (by omega)) (fun a15 M15 r15 h15 => ?_)
      obtain ⟨e15, h15⟩ := h15
      replace e15 := e15.symm
      subst e15
      refine f_eq (tgt := 37) hZ dX6_set_18 rfl (by omega) (fun h18 => ?_) (fun h18 => ?_)
      · refine f_bipush hZ dX6_set_37 ?_
        exact f_retI hZ hR dX6_set_39 rfl (by omega) (by first | exact Or.inl ⟨by rw [hok]; omega, rfl, rfl⟩ | exact Or.inr (Or.inl ⟨by rw [hok]; omega, by omega, rfl, rfl⟩) | exact Or.inr (Or.inr ⟨by rw [hok]; omega, by omega, by first | rfl | assumption, by first | rfl | assumption⟩))
      · refine f_iload_n hZ dX6_set_21 rfl ?_
        refine f_iconst hZ dX6_set_22 ?_
        refine f_ige (tgt := 40) hZ dX6_set_23 rfl (by omega) (by omega) (fun h23 => ?_) (fun h23 => ?_)
        · exfalso; omega
        · refine f_aload_n hZ dX6_set_26 rfl ?_
          refine gX6_10 hZ dX6_set_27 ?_
          refine f_iload_n hZ dX6_set_30 rfl ?_
          refine vX6_75 hZ dX6_set_31 (by first | exact hC | exact isC1 | exact isC7 | exact isC13) (t_X0_has isC1 (by omega) hn) (fun a31 M31 r31 h31 => ?_)
          try simp only [Nat.reduceAdd] at h31
          obtain ⟨e31, h31⟩ := h31
          replace e31 := e31.symm
          subst e31
          refine f_ne (tgt := 40) hZ dX6_set_34 rfl (by omega) (fun h34 => ?_) (fun h34 => ?_)
          · refine f_iload_n hZ dX6_set_40 rfl ?_
            refine f_iconst hZ dX6_set_41 ?_
            refine f_ine (tgt := 64) hZ dX6_set_42 rfl (by omega) (by omega) (fun h42 => ?_) (fun h42 => ?_)
            · refine f_aload_n hZ dX6_set_64 rfl ?_
              refine gX6_34 hZ dX6_set_65 ?_
              refine vX6_64 hZ dX6_set_68 (t_X4_forget) (fun M68 h68 => ?_)
              subst h68
              refine f_iload_n hZ dX6_set_71 rfl ?_
              refine f_iconst hZ dX6_set_72 ?_
              refine f_ine (tgt := 82) hZ dX6_set_73 rfl (by omega) (by omega) (fun h73 => ?_) (fun h73 => ?_)
              · refine f_iload_n hZ dX6_set_82 rfl ?_
                refine f_iconst hZ dX6_set_83 ?_
                refine f_ine (tgt := 95) hZ dX6_set_84 rfl (by omega) (by omega) (fun h84 => ?_) (fun h84 => ?_)
                · refine f_aload_n hZ dX6_set_95 rfl ?_
                  refine gX6_10 hZ dX6_set_96 ?_
                  refine f_iload_n hZ dX6_set_99 rfl ?_
                  refine f_iload_n hZ dX6_set_100 rfl ?_
                  refine f_iload_n hZ dX6_set_101 rfl ?_
                  refine vX6_88 hZ dX6_set_102 (by first | exact hC | exact isC1 | exact isC7 | exact isC13) (t_X0_change isC1 (by omega) (by show 0 ≤ of ∧ of < M 1 5; omega) (by omega) (by show M 1 5 ≤ 4; omega)) (fun a102 M102 r102 h102 => ?_)
                  try simp only [Nat.reduceAdd] at h102
                  obtain ⟨rfl, h102⟩ := h102
                  exact f_retI hZ hR dX6_set_105 rfl (by omega) (by first | exact Or.inl ⟨by rw [hok]; omega, rfl, rfl⟩ | exact Or.inr (Or.inl ⟨by rw [hok]; omega, by omega, rfl, rfl⟩) | exact Or.inr (Or.inr ⟨by rw [hok]; omega, by omega, by first | rfl | assumption, by first | rfl | assumption⟩))
                · exfalso; omega
              · exfalso; omega
            · exfalso; omega
          · refine f_bipush hZ dX6_set_37 ?_
            exact f_retI hZ hR dX6_set_39 rfl (by omega) (by first | exact Or.inl ⟨by rw [hok]; omega, rfl, rfl⟩ | exact Or.inr (Or.inl ⟨by rw [hok]; omega, by omega, rfl, rfl⟩) | exact Or.inr (Or.inr ⟨by rw [hok]; omega, by omega, by first | rfl | assumption, by first | rfl | assumption⟩))
  · have hok : setOk (M 1 5) 1 of v = ((0 ≤ (1 : Int) ∧ (1 : Int) ≤ 5) ∧ ((1 : Int) < 4 → 0 ≤ of ∧ of < M 1 5) ∧ 0 ≤ v ∧ v ≤ 2) := rfl
    refine f_iload_n hZ dX6_set_0 rfl ?_
    refine f_iconst hZ dX6_set_1 ?_
    refine f_iconst hZ dX6_set_2 ?_
    refine sX6_56 hZ dX6_set_3 (t_X6_within (by omega) (by omega) (by omega)) (fun a3 M3 r3 h3 => ?_)
    obtain ⟨e3, h3⟩ := h3
    replace e3 := e3.symm
    subst e3
    refine f_eq (tgt := 37) hZ dX6_set_6 rfl (by omega) (fun h6 => ?_) (fun h6 => ?_)
    · refine f_bipush hZ dX6_set_37 ?_
      exact f_retI hZ hR dX6_set_39 rfl (by omega) (by first | exact Or.inl ⟨by rw [hok]; omega, rfl, rfl⟩ | exact Or.inr (Or.inl ⟨by rw [hok]; omega, by omega, rfl, rfl⟩) | exact Or.inr (Or.inr ⟨by rw [hok]; omega, by omega, by first | rfl | assumption, by first | rfl | assumption⟩))
    · refine f_iload_n hZ dX6_set_9 rfl ?_
      refine f_iconst hZ dX6_set_10 ?_
      refine f_iload_n hZ dX6_set_11 rfl ?_
      refine sX6_71 hZ dX6_set_12 (t_X6_mostOf (by omega)) (fun a12 M12 r12 h12 => ?_)
      obtain ⟨e12, h12⟩ := h12
      replace e12 := e12.symm
      subst e12
      replace h12 : a12 = 2 := h12
      subst h12
      refine sX6_56 hZ dX6_set_15 (t_X6_within (by omega) (by omega) (by omega)) (fun a15 M15 r15 h15 => ?_)
      obtain ⟨e15, h15⟩ := h15
      replace e15 := e15.symm
      subst e15
      refine f_eq (tgt := 37) hZ dX6_set_18 rfl (by omega) (fun h18 => ?_) (fun h18 => ?_)
      · refine f_bipush hZ dX6_set_37 ?_
        exact f_retI hZ hR dX6_set_39 rfl (by omega) (by first | exact Or.inl ⟨by rw [hok]; omega, rfl, rfl⟩ | exact Or.inr (Or.inl ⟨by rw [hok]; omega, by omega, rfl, rfl⟩) | exact Or.inr (Or.inr ⟨by rw [hok]; omega, by omega, by first | rfl | assumption, by first | rfl | assumption⟩))
      · refine f_iload_n hZ dX6_set_21 rfl ?_
        refine f_iconst hZ dX6_set_22 ?_
        refine f_ige (tgt := 40) hZ dX6_set_23 rfl (by omega) (by omega) (fun h23 => ?_) (fun h23 => ?_)
        · exfalso; omega
        · refine f_aload_n hZ dX6_set_26 rfl ?_
          refine gX6_10 hZ dX6_set_27 ?_
          refine f_iload_n hZ dX6_set_30 rfl ?_
          refine vX6_75 hZ dX6_set_31 (by first | exact hC | exact isC1 | exact isC7 | exact isC13) (t_X0_has isC1 (by omega) hn) (fun a31 M31 r31 h31 => ?_)
          try simp only [Nat.reduceAdd] at h31
          obtain ⟨e31, h31⟩ := h31
          replace e31 := e31.symm
          subst e31
          refine f_ne (tgt := 40) hZ dX6_set_34 rfl (by omega) (fun h34 => ?_) (fun h34 => ?_)
          · refine f_iload_n hZ dX6_set_40 rfl ?_
            refine f_iconst hZ dX6_set_41 ?_
            refine f_ine (tgt := 64) hZ dX6_set_42 rfl (by omega) (by omega) (fun h42 => ?_) (fun h42 => ?_)
            · exfalso; omega
            · refine f_iload_n hZ dX6_set_45 rfl ?_
              refine f_le (tgt := 64) hZ dX6_set_46 rfl (by omega) (fun h46 => ?_) (fun h46 => ?_)
              · refine f_aload_n hZ dX6_set_64 rfl ?_
                refine gX6_34 hZ dX6_set_65 ?_
                refine vX6_64 hZ dX6_set_68 (t_X4_forget) (fun M68 h68 => ?_)
                subst h68
                refine f_iload_n hZ dX6_set_71 rfl ?_
                refine f_iconst hZ dX6_set_72 ?_
                refine f_ine (tgt := 82) hZ dX6_set_73 rfl (by omega) (by omega) (fun h73 => ?_) (fun h73 => ?_)
                · refine f_iload_n hZ dX6_set_82 rfl ?_
                  refine f_iconst hZ dX6_set_83 ?_
                  refine f_ine (tgt := 95) hZ dX6_set_84 rfl (by omega) (by omega) (fun h84 => ?_) (fun h84 => ?_)
                  · refine f_aload_n hZ dX6_set_95 rfl ?_
                    refine gX6_10 hZ dX6_set_96 ?_
                    refine f_iload_n hZ dX6_set_99 rfl ?_
                    refine f_iload_n hZ dX6_set_100 rfl ?_
                    refine f_iload_n hZ dX6_set_101 rfl ?_
                    refine vX6_88 hZ dX6_set_102 (by first | exact hC | exact isC1 | exact isC7 | exact isC13) (t_X0_change isC1 (by omega) (by show 0 ≤ of ∧ of < M 1 5; omega) (by omega) (by show M 1 5 ≤ 4; omega)) (fun a102 M102 r102 h102 => ?_)
                    try simp only [Nat.reduceAdd] at h102
                    obtain ⟨rfl, h102⟩ := h102
                    exact f_retI hZ hR dX6_set_105 rfl (by omega) (by first | exact Or.inl ⟨by rw [hok]; omega, rfl, rfl⟩ | exact Or.inr (Or.inl ⟨by rw [hok]; omega, by omega, rfl, rfl⟩) | exact Or.inr (Or.inr ⟨by rw [hok]; omega, by omega, by first | rfl | assumption, by first | rfl | assumption⟩))
                  · exfalso; omega
                · exfalso; omega
              · refine f_aload_n hZ dX6_set_49 rfl ?_
                refine gX6_10 hZ dX6_set_50 ?_
                refine gX6_79_1 hZ dX6_set_53 ?_
                refine f_iload_n hZ dX6_set_56 rfl ?_
                refine f_iaload hZ dX6_set_57 (by first | rfl | exact hC.t1 | exact hC.t2 | exact hC.t3 | exact hC.t4 | exact hC.t5) (by first | rfl | exact hC.l1 | exact hC.l2 | exact hC.l3 | exact hC.l4 | exact hC.l5) (by omega) (by omega) (fun r57 => ?_)
                refine f_ne (tgt := 64) hZ dX6_set_58 rfl (by omega) (fun h58 => ?_) (fun h58 => ?_)
                · refine f_aload_n hZ dX6_set_64 rfl ?_
                  refine gX6_34 hZ dX6_set_65 ?_
                  refine vX6_64 hZ dX6_set_68 (t_X4_forget) (fun M68 h68 => ?_)
                  subst h68
                  refine f_iload_n hZ dX6_set_71 rfl ?_
                  refine f_iconst hZ dX6_set_72 ?_
                  refine f_ine (tgt := 82) hZ dX6_set_73 rfl (by omega) (by omega) (fun h73 => ?_) (fun h73 => ?_)
                  · refine f_iload_n hZ dX6_set_82 rfl ?_
                    refine f_iconst hZ dX6_set_83 ?_
                    refine f_ine (tgt := 95) hZ dX6_set_84 rfl (by omega) (by omega) (fun h84 => ?_) (fun h84 => ?_)
                    · refine f_aload_n hZ dX6_set_95 rfl ?_
                      refine gX6_10 hZ dX6_set_96 ?_
                      refine f_iload_n hZ dX6_set_99 rfl ?_
                      refine f_iload_n hZ dX6_set_100 rfl ?_
                      refine f_iload_n hZ dX6_set_101 rfl ?_
                      refine vX6_88 hZ dX6_set_102 (by first | exact hC | exact isC1 | exact isC7 | exact isC13) (t_X0_change isC1 (by omega) (by show 0 ≤ of ∧ of < M 1 5; omega) (by omega) (by show M 1 5 ≤ 4; omega)) (fun a102 M102 r102 h102 => ?_)
                      try simp only [Nat.reduceAdd] at h102
                      obtain ⟨rfl, h102⟩ := h102
                      exact f_retI hZ hR dX6_set_105 rfl (by omega) (by first | exact Or.inl ⟨by rw [hok]; omega, rfl, rfl⟩ | exact Or.inr (Or.inl ⟨by rw [hok]; omega, by omega, rfl, rfl⟩) | exact Or.inr (Or.inr ⟨by rw [hok]; omega, by omega, by first | rfl | assumption, by first | rfl | assumption⟩))
                    · exfalso; omega
                  · exfalso; omega
                · refine f_bipush hZ dX6_set_61 ?_
                  exact f_retI hZ hR dX6_set_63 rfl (by omega) (by first | exact Or.inl ⟨by rw [hok]; omega, rfl, rfl⟩ | exact Or.inr (Or.inl ⟨by rw [hok]; omega, by omega, rfl, rfl⟩) | exact Or.inr (Or.inr ⟨by rw [hok]; omega, by omega, by first | rfl | assumption, by first | rfl | assumption⟩))
          · refine f_bipush hZ dX6_set_37 ?_
            exact f_retI hZ hR dX6_set_39 rfl (by omega) (by first | exact Or.inl ⟨by rw [hok]; omega, rfl, rfl⟩ | exact Or.inr (Or.inl ⟨by rw [hok]; omega, by omega, rfl, rfl⟩) | exact Or.inr (Or.inr ⟨by rw [hok]; omega, by omega, by first | rfl | assumption, by first | rfl | assumption⟩))
  · have hok : setOk (M 1 5) 2 of v = ((0 ≤ (2 : Int) ∧ (2 : Int) ≤ 5) ∧ ((2 : Int) < 4 → 0 ≤ of ∧ of < M 1 5) ∧ 0 ≤ v ∧ v ≤ 999) := rfl
    refine f_iload_n hZ dX6_set_0 rfl ?_
    refine f_iconst hZ dX6_set_1 ?_
    refine f_iconst hZ dX6_set_2 ?_
    refine sX6_56 hZ dX6_set_3 (t_X6_within (by omega) (by omega) (by omega)) (fun a3 M3 r3 h3 => ?_)
    obtain ⟨e3, h3⟩ := h3
    replace e3 := e3.symm
    subst e3
    refine f_eq (tgt := 37) hZ dX6_set_6 rfl (by omega) (fun h6 => ?_) (fun h6 => ?_)
    · refine f_bipush hZ dX6_set_37 ?_
      exact f_retI hZ hR dX6_set_39 rfl (by omega) (by first | exact Or.inl ⟨by rw [hok]; omega, rfl, rfl⟩ | exact Or.inr (Or.inl ⟨by rw [hok]; omega, by omega, rfl, rfl⟩) | exact Or.inr (Or.inr ⟨by rw [hok]; omega, by omega, by first | rfl | assumption, by first | rfl | assumption⟩))
    · refine f_iload_n hZ dX6_set_9 rfl ?_
      refine f_iconst hZ dX6_set_10 ?_
      refine f_iload_n hZ dX6_set_11 rfl ?_
      refine sX6_71 hZ dX6_set_12 (t_X6_mostOf (by omega)) (fun a12 M12 r12 h12 => ?_)
      obtain ⟨e12, h12⟩ := h12
      replace e12 := e12.symm
      subst e12
      replace h12 : a12 = 999 := h12
      subst h12
      refine sX6_56 hZ dX6_set_15 (t_X6_within (by omega) (by omega) (by omega)) (fun a15 M15 r15 h15 => ?_)
      obtain ⟨e15, h15⟩ := h15
      replace e15 := e15.symm
      subst e15
      refine f_eq (tgt := 37) hZ dX6_set_18 rfl (by omega) (fun h18 => ?_) (fun h18 => ?_)
      · refine f_bipush hZ dX6_set_37 ?_
        exact f_retI hZ hR dX6_set_39 rfl (by omega) (by first | exact Or.inl ⟨by rw [hok]; omega, rfl, rfl⟩ | exact Or.inr (Or.inl ⟨by rw [hok]; omega, by omega, rfl, rfl⟩) | exact Or.inr (Or.inr ⟨by rw [hok]; omega, by omega, by first | rfl | assumption, by first | rfl | assumption⟩))
      · refine f_iload_n hZ dX6_set_21 rfl ?_
        refine f_iconst hZ dX6_set_22 ?_
        refine f_ige (tgt := 40) hZ dX6_set_23 rfl (by omega) (by omega) (fun h23 => ?_) (fun h23 => ?_)
        · exfalso; omega
        · refine f_aload_n hZ dX6_set_26 rfl ?_
          refine gX6_10 hZ dX6_set_27 ?_
          refine f_iload_n hZ dX6_set_30 rfl ?_
          refine vX6_75 hZ dX6_set_31 (by first | exact hC | exact isC1 | exact isC7 | exact isC13) (t_X0_has isC1 (by omega) hn) (fun a31 M31 r31 h31 => ?_)
          try simp only [Nat.reduceAdd] at h31
          obtain ⟨e31, h31⟩ := h31
          replace e31 := e31.symm
          subst e31
          refine f_ne (tgt := 40) hZ dX6_set_34 rfl (by omega) (fun h34 => ?_) (fun h34 => ?_)
          · refine f_iload_n hZ dX6_set_40 rfl ?_
            refine f_iconst hZ dX6_set_41 ?_
            refine f_ine (tgt := 64) hZ dX6_set_42 rfl (by omega) (by omega) (fun h42 => ?_) (fun h42 => ?_)
            · refine f_aload_n hZ dX6_set_64 rfl ?_
              refine gX6_34 hZ dX6_set_65 ?_
              refine vX6_64 hZ dX6_set_68 (t_X4_forget) (fun M68 h68 => ?_)
              subst h68
              refine f_iload_n hZ dX6_set_71 rfl ?_
              refine f_iconst hZ dX6_set_72 ?_
              refine f_ine (tgt := 82) hZ dX6_set_73 rfl (by omega) (by omega) (fun h73 => ?_) (fun h73 => ?_)
              · refine f_iload_n hZ dX6_set_82 rfl ?_
                refine f_iconst hZ dX6_set_83 ?_
                refine f_ine (tgt := 95) hZ dX6_set_84 rfl (by omega) (by omega) (fun h84 => ?_) (fun h84 => ?_)
                · refine f_aload_n hZ dX6_set_95 rfl ?_
                  refine gX6_10 hZ dX6_set_96 ?_
                  refine f_iload_n hZ dX6_set_99 rfl ?_
                  refine f_iload_n hZ dX6_set_100 rfl ?_
                  refine f_iload_n hZ dX6_set_101 rfl ?_
                  refine vX6_88 hZ dX6_set_102 (by first | exact hC | exact isC1 | exact isC7 | exact isC13) (t_X0_change isC1 (by omega) (by show 0 ≤ of ∧ of < M 1 5; omega) (by omega) (by show M 1 5 ≤ 4; omega)) (fun a102 M102 r102 h102 => ?_)
                  try simp only [Nat.reduceAdd] at h102
                  obtain ⟨rfl, h102⟩ := h102
                  exact f_retI hZ hR dX6_set_105 rfl (by omega) (by first | exact Or.inl ⟨by rw [hok]; omega, rfl, rfl⟩ | exact Or.inr (Or.inl ⟨by rw [hok]; omega, by omega, rfl, rfl⟩) | exact Or.inr (Or.inr ⟨by rw [hok]; omega, by omega, by first | rfl | assumption, by first | rfl | assumption⟩))
                · exfalso; omega
              · exfalso; omega
            · exfalso; omega
          · refine f_bipush hZ dX6_set_37 ?_
            exact f_retI hZ hR dX6_set_39 rfl (by omega) (by first | exact Or.inl ⟨by rw [hok]; omega, rfl, rfl⟩ | exact Or.inr (Or.inl ⟨by rw [hok]; omega, by omega, rfl, rfl⟩) | exact Or.inr (Or.inr ⟨by rw [hok]; omega, by omega, by first | rfl | assumption, by first | rfl | assumption⟩))
  · have hok : setOk (M 1 5) 3 of v = ((0 ≤ (3 : Int) ∧ (3 : Int) ≤ 5) ∧ ((3 : Int) < 4 → 0 ≤ of ∧ of < M 1 5) ∧ 0 ≤ v ∧ v ≤ 9) := rfl
    refine f_iload_n hZ dX6_set_0 rfl ?_
    refine f_iconst hZ dX6_set_1 ?_
    refine f_iconst hZ dX6_set_2 ?_
    refine sX6_56 hZ dX6_set_3 (t_X6_within (by omega) (by omega) (by omega)) (fun a3 M3 r3 h3 => ?_)
    obtain ⟨e3, h3⟩ := h3
    replace e3 := e3.symm
    subst e3
    refine f_eq (tgt := 37) hZ dX6_set_6 rfl (by omega) (fun h6 => ?_) (fun h6 => ?_)
    · refine f_bipush hZ dX6_set_37 ?_
      exact f_retI hZ hR dX6_set_39 rfl (by omega) (by first | exact Or.inl ⟨by rw [hok]; omega, rfl, rfl⟩ | exact Or.inr (Or.inl ⟨by rw [hok]; omega, by omega, rfl, rfl⟩) | exact Or.inr (Or.inr ⟨by rw [hok]; omega, by omega, by first | rfl | assumption, by first | rfl | assumption⟩))
    · refine f_iload_n hZ dX6_set_9 rfl ?_
      refine f_iconst hZ dX6_set_10 ?_
      refine f_iload_n hZ dX6_set_11 rfl ?_
      refine sX6_71 hZ dX6_set_12 (t_X6_mostOf (by omega)) (fun a12 M12 r12 h12 => ?_)
      obtain ⟨e12, h12⟩ := h12
      replace e12 := e12.symm
      subst e12
      replace h12 : a12 = 9 := h12
      subst h12
      refine sX6_56 hZ dX6_set_15 (t_X6_within (by omega) (by omega) (by omega)) (fun a15 M15 r15 h15 => ?_)
      obtain ⟨e15, h15⟩ := h15
      replace e15 := e15.symm
      subst e15
      refine f_eq (tgt := 37) hZ dX6_set_18 rfl (by omega) (fun h18 => ?_) (fun h18 => ?_)
      · refine f_bipush hZ dX6_set_37 ?_
        exact f_retI hZ hR dX6_set_39 rfl (by omega) (by first | exact Or.inl ⟨by rw [hok]; omega, rfl, rfl⟩ | exact Or.inr (Or.inl ⟨by rw [hok]; omega, by omega, rfl, rfl⟩) | exact Or.inr (Or.inr ⟨by rw [hok]; omega, by omega, by first | rfl | assumption, by first | rfl | assumption⟩))
      · refine f_iload_n hZ dX6_set_21 rfl ?_
        refine f_iconst hZ dX6_set_22 ?_
        refine f_ige (tgt := 40) hZ dX6_set_23 rfl (by omega) (by omega) (fun h23 => ?_) (fun h23 => ?_)
        · exfalso; omega
        · refine f_aload_n hZ dX6_set_26 rfl ?_
          refine gX6_10 hZ dX6_set_27 ?_
          refine f_iload_n hZ dX6_set_30 rfl ?_
          refine vX6_75 hZ dX6_set_31 (by first | exact hC | exact isC1 | exact isC7 | exact isC13) (t_X0_has isC1 (by omega) hn) (fun a31 M31 r31 h31 => ?_)
          try simp only [Nat.reduceAdd] at h31
          obtain ⟨e31, h31⟩ := h31
          replace e31 := e31.symm
          subst e31
          refine f_ne (tgt := 40) hZ dX6_set_34 rfl (by omega) (fun h34 => ?_) (fun h34 => ?_)
          · refine f_iload_n hZ dX6_set_40 rfl ?_
            refine f_iconst hZ dX6_set_41 ?_
            refine f_ine (tgt := 64) hZ dX6_set_42 rfl (by omega) (by omega) (fun h42 => ?_) (fun h42 => ?_)
            · refine f_aload_n hZ dX6_set_64 rfl ?_
              refine gX6_34 hZ dX6_set_65 ?_
              refine vX6_64 hZ dX6_set_68 (t_X4_forget) (fun M68 h68 => ?_)
              subst h68
              refine f_iload_n hZ dX6_set_71 rfl ?_
              refine f_iconst hZ dX6_set_72 ?_
              refine f_ine (tgt := 82) hZ dX6_set_73 rfl (by omega) (by omega) (fun h73 => ?_) (fun h73 => ?_)
              · refine f_iload_n hZ dX6_set_82 rfl ?_
                refine f_iconst hZ dX6_set_83 ?_
                refine f_ine (tgt := 95) hZ dX6_set_84 rfl (by omega) (by omega) (fun h84 => ?_) (fun h84 => ?_)
                · refine f_aload_n hZ dX6_set_95 rfl ?_
                  refine gX6_10 hZ dX6_set_96 ?_
                  refine f_iload_n hZ dX6_set_99 rfl ?_
                  refine f_iload_n hZ dX6_set_100 rfl ?_
                  refine f_iload_n hZ dX6_set_101 rfl ?_
                  refine vX6_88 hZ dX6_set_102 (by first | exact hC | exact isC1 | exact isC7 | exact isC13) (t_X0_change isC1 (by omega) (by show 0 ≤ of ∧ of < M 1 5; omega) (by omega) (by show M 1 5 ≤ 4; omega)) (fun a102 M102 r102 h102 => ?_)
                  try simp only [Nat.reduceAdd] at h102
                  obtain ⟨rfl, h102⟩ := h102
                  exact f_retI hZ hR dX6_set_105 rfl (by omega) (by first | exact Or.inl ⟨by rw [hok]; omega, rfl, rfl⟩ | exact Or.inr (Or.inl ⟨by rw [hok]; omega, by omega, rfl, rfl⟩) | exact Or.inr (Or.inr ⟨by rw [hok]; omega, by omega, by first | rfl | assumption, by first | rfl | assumption⟩))
                · exfalso; omega
              · exfalso; omega
            · exfalso; omega
          · refine f_bipush hZ dX6_set_37 ?_
            exact f_retI hZ hR dX6_set_39 rfl (by omega) (by first | exact Or.inl ⟨by rw [hok]; omega, rfl, rfl⟩ | exact Or.inr (Or.inl ⟨by rw [hok]; omega, by omega, rfl, rfl⟩) | exact Or.inr (Or.inr ⟨by rw [hok]; omega, by omega, by first | rfl | assumption, by first | rfl | assumption⟩))
  · have hok : setOk (M 1 5) 4 of v = ((0 ≤ (4 : Int) ∧ (4 : Int) ≤ 5) ∧ ((4 : Int) < 4 → 0 ≤ of ∧ of < M 1 5) ∧ 0 ≤ v ∧ v ≤ 9) := rfl
    refine f_iload_n hZ dX6_set_0 rfl ?_
    refine f_iconst hZ dX6_set_1 ?_
    refine f_iconst hZ dX6_set_2 ?_
    refine sX6_56 hZ dX6_set_3 (t_X6_within (by omega) (by omega) (by omega)) (fun a3 M3 r3 h3 => ?_)
    obtain ⟨e3, h3⟩ := h3
    replace e3 := e3.symm
    subst e3
    refine f_eq (tgt := 37) hZ dX6_set_6 rfl (by omega) (fun h6 => ?_) (fun h6 => ?_)
    · refine f_bipush hZ dX6_set_37 ?_
      exact f_retI hZ hR dX6_set_39 rfl (by omega) (by first | exact Or.inl ⟨by rw [hok]; omega, rfl, rfl⟩ | exact Or.inr (Or.inl ⟨by rw [hok]; omega, by omega, rfl, rfl⟩) | exact Or.inr (Or.inr ⟨by rw [hok]; omega, by omega, by first | rfl | assumption, by first | rfl | assumption⟩))
    · refine f_iload_n hZ dX6_set_9 rfl ?_
      refine f_iconst hZ dX6_set_10 ?_
      refine f_iload_n hZ dX6_set_11 rfl ?_
      refine sX6_71 hZ dX6_set_12 (t_X6_mostOf (by omega)) (fun a12 M12 r12 h12 => ?_)
      obtain ⟨e12, h12⟩ := h12
      replace e12 := e12.symm
      subst e12
      replace h12 : a12 = 9 := h12
      subst h12
      refine sX6_56 hZ dX6_set_15 (t_X6_within (by omega) (by omega) (by omega)) (fun a15 M15 r15 h15 => ?_)
      obtain ⟨e15, h15⟩ := h15
      replace e15 := e15.symm
      subst e15
      refine f_eq (tgt := 37) hZ dX6_set_18 rfl (by omega) (fun h18 => ?_) (fun h18 => ?_)
      · refine f_bipush hZ dX6_set_37 ?_
        exact f_retI hZ hR dX6_set_39 rfl (by omega) (by first | exact Or.inl ⟨by rw [hok]; omega, rfl, rfl⟩ | exact Or.inr (Or.inl ⟨by rw [hok]; omega, by omega, rfl, rfl⟩) | exact Or.inr (Or.inr ⟨by rw [hok]; omega, by omega, by first | rfl | assumption, by first | rfl | assumption⟩))
      · refine f_iload_n hZ dX6_set_21 rfl ?_
        refine f_iconst hZ dX6_set_22 ?_
        refine f_ige (tgt := 40) hZ dX6_set_23 rfl (by omega) (by omega) (fun h23 => ?_) (fun h23 => ?_)
        · refine f_iload_n hZ dX6_set_40 rfl ?_
          refine f_iconst hZ dX6_set_41 ?_
          refine f_ine (tgt := 64) hZ dX6_set_42 rfl (by omega) (by omega) (fun h42 => ?_) (fun h42 => ?_)
          · refine f_aload_n hZ dX6_set_64 rfl ?_
            refine gX6_34 hZ dX6_set_65 ?_
            refine vX6_64 hZ dX6_set_68 (t_X4_forget) (fun M68 h68 => ?_)
            subst h68
            refine f_iload_n hZ dX6_set_71 rfl ?_
            refine f_iconst hZ dX6_set_72 ?_
            refine f_ine (tgt := 82) hZ dX6_set_73 rfl (by omega) (by omega) (fun h73 => ?_) (fun h73 => ?_)
            · exfalso; omega
            · refine f_aload_n hZ dX6_set_76 rfl ?_
              refine f_iload_n hZ dX6_set_77 rfl ?_
              refine vX6_82 hZ dX6_set_78 (t_X6_setDamp (by omega)) (fun a78 M78 r78 h78 => ?_)
              obtain ⟨rfl, h78⟩ := h78
              exact f_retI hZ hR dX6_set_81 rfl (by omega) (by first | exact Or.inl ⟨by rw [hok]; omega, rfl, rfl⟩ | exact Or.inr (Or.inl ⟨by rw [hok]; omega, by omega, rfl, rfl⟩) | exact Or.inr (Or.inr ⟨by rw [hok]; omega, by omega, by first | rfl | assumption, by first | rfl | assumption⟩))
          · exfalso; omega
        · exfalso; omega
  · have hok : setOk (M 1 5) 5 of v = ((0 ≤ (5 : Int) ∧ (5 : Int) ≤ 5) ∧ ((5 : Int) < 4 → 0 ≤ of ∧ of < M 1 5) ∧ 0 ≤ v ∧ v ≤ 9999) := rfl
    refine f_iload_n hZ dX6_set_0 rfl ?_
    refine f_iconst hZ dX6_set_1 ?_
    refine f_iconst hZ dX6_set_2 ?_
    refine sX6_56 hZ dX6_set_3 (t_X6_within (by omega) (by omega) (by omega)) (fun a3 M3 r3 h3 => ?_)
    obtain ⟨e3, h3⟩ := h3
    replace e3 := e3.symm
    subst e3
    refine f_eq (tgt := 37) hZ dX6_set_6 rfl (by omega) (fun h6 => ?_) (fun h6 => ?_)
    · refine f_bipush hZ dX6_set_37 ?_
      exact f_retI hZ hR dX6_set_39 rfl (by omega) (by first | exact Or.inl ⟨by rw [hok]; omega, rfl, rfl⟩ | exact Or.inr (Or.inl ⟨by rw [hok]; omega, by omega, rfl, rfl⟩) | exact Or.inr (Or.inr ⟨by rw [hok]; omega, by omega, by first | rfl | assumption, by first | rfl | assumption⟩))
    · refine f_iload_n hZ dX6_set_9 rfl ?_
      refine f_iconst hZ dX6_set_10 ?_
      refine f_iload_n hZ dX6_set_11 rfl ?_
      refine sX6_71 hZ dX6_set_12 (t_X6_mostOf (by omega)) (fun a12 M12 r12 h12 => ?_)
      obtain ⟨e12, h12⟩ := h12
      replace e12 := e12.symm
      subst e12
      replace h12 : a12 = 9999 := h12
      subst h12
      refine sX6_56 hZ dX6_set_15 (t_X6_within (by omega) (by omega) (by omega)) (fun a15 M15 r15 h15 => ?_)
      obtain ⟨e15, h15⟩ := h15
      replace e15 := e15.symm
      subst e15
      refine f_eq (tgt := 37) hZ dX6_set_18 rfl (by omega) (fun h18 => ?_) (fun h18 => ?_)
      · refine f_bipush hZ dX6_set_37 ?_
        exact f_retI hZ hR dX6_set_39 rfl (by omega) (by first | exact Or.inl ⟨by rw [hok]; omega, rfl, rfl⟩ | exact Or.inr (Or.inl ⟨by rw [hok]; omega, by omega, rfl, rfl⟩) | exact Or.inr (Or.inr ⟨by rw [hok]; omega, by omega, by first | rfl | assumption, by first | rfl | assumption⟩))
      · refine f_iload_n hZ dX6_set_21 rfl ?_
        refine f_iconst hZ dX6_set_22 ?_
        refine f_ige (tgt := 40) hZ dX6_set_23 rfl (by omega) (by omega) (fun h23 => ?_) (fun h23 => ?_)
        · refine f_iload_n hZ dX6_set_40 rfl ?_
          refine f_iconst hZ dX6_set_41 ?_
          refine f_ine (tgt := 64) hZ dX6_set_42 rfl (by omega) (by omega) (fun h42 => ?_) (fun h42 => ?_)
          · refine f_aload_n hZ dX6_set_64 rfl ?_
            refine gX6_34 hZ dX6_set_65 ?_
            refine vX6_64 hZ dX6_set_68 (t_X4_forget) (fun M68 h68 => ?_)
            subst h68
            refine f_iload_n hZ dX6_set_71 rfl ?_
            refine f_iconst hZ dX6_set_72 ?_
            refine f_ine (tgt := 82) hZ dX6_set_73 rfl (by omega) (by omega) (fun h73 => ?_) (fun h73 => ?_)
            · refine f_iload_n hZ dX6_set_82 rfl ?_
              refine f_iconst hZ dX6_set_83 ?_
              refine f_ine (tgt := 95) hZ dX6_set_84 rfl (by omega) (by omega) (fun h84 => ?_) (fun h84 => ?_)
              · exfalso; omega
              · refine f_aload_n hZ dX6_set_87 rfl ?_
                refine f_iload_n hZ dX6_set_88 rfl ?_
                refine vX6_85 hZ dX6_set_89 (t_X6_setMoment (by omega)) (fun a89 M89 r89 h89 => ?_)
                obtain ⟨rfl, h89⟩ := h89
                refine f_goto (tgt := 105) hZ dX6_set_92 rfl ?_
                exact f_retI hZ hR dX6_set_105 rfl (by omega) (by first | exact Or.inl ⟨by rw [hok]; omega, rfl, rfl⟩ | exact Or.inr (Or.inl ⟨by rw [hok]; omega, by omega, rfl, rfl⟩) | exact Or.inr (Or.inr ⟨by rw [hok]; omega, by omega, by first | rfl | assumption, by first | rfl | assumption⟩))
            · exfalso; omega
          · exfalso; omega
        · exfalso; omega

set_option maxRecDepth 20000 in
set_option maxHeartbeats 4000000 in
theorem t_X6_told {X : fX} {M : fM} {d : Nat} {w q : Int} (hw : rg w) (hq0 : rg q) (hW : WfK M) : fC X (d + 2) mX6_told [.ref (xa X 0), .int (iv w), .int (iv q)] M (QI fun r M' => M' = M ∧ r = toldZ (M 1 5) (M 2) (M 3) (M 4) (M 5) (M 6) (M 1 6) w q) := by
  obtain ⟨hn, hdm, hmo, hA⟩ := hW
  replace hA : WfA (M 1 5) (M 2) (M 3) (M 4) (M 5) (M 6) := hA
  refine fC.of (L := [_, _, _]) (by decide +kernel) rfl (Nat.le_of_ble_eq_true rfl) (fun Z hZ hR => ?_)
  rcases (show (q < 0 ∨ 8 < q) ∨ q = 0 ∨ q = 1 ∨ q = 2 ∨ q = 3 ∨ q = 4 ∨ q = 5 ∨ q = 6 ∨ q = 7 ∨ q = 8 by omega) with hqq | rfl | rfl | rfl | rfl | rfl | rfl | rfl | rfl | rfl
  · refine f_aload_n hZ dX6_told_0 rfl ?_
    refine gX6_10 hZ dX6_told_1 ?_
    refine f_iload_n hZ dX6_told_4 rfl ?_
    refine vX6_75 hZ dX6_told_5 (by first | exact hC | exact isC1 | exact isC7 | exact isC13) (t_X0_has isC1 (by omega) hn) (fun a5 M5 r5 h5 => ?_)
    try simp only [Nat.reduceAdd] at h5
    obtain ⟨e5, h5⟩ := h5
    replace e5 := e5.symm
    subst e5
    refine f_ne (tgt := 14) hZ dX6_told_8 rfl (by omega) (fun h8 => ?_) (fun h8 => ?_)
    · refine f_iload_n hZ dX6_told_14 rfl ?_
      refine f_tswOut (tgt := 191) hZ dX6_told_15 (by omega) (by omega) rfl ?_
      refine f_bipush hZ dX6_told_191 ?_
      exact f_retI hZ hR dX6_told_193 rfl (by omega) (by first | exact ⟨rfl, by unfold toldZ; rw [if_pos (by omega)]⟩ | exact ⟨rfl, by unfold toldZ; rw [if_neg (by omega)]; rfl⟩)
    · refine f_bipush hZ dX6_told_11 ?_
      exact f_retI hZ hR dX6_told_13 rfl (by omega) (by first | exact ⟨rfl, by unfold toldZ; rw [if_pos (by omega)]⟩ | exact ⟨rfl, by unfold toldZ; rw [if_neg (by omega)]; rfl⟩)
  · refine f_aload_n hZ dX6_told_0 rfl ?_
    refine gX6_10 hZ dX6_told_1 ?_
    refine f_iload_n hZ dX6_told_4 rfl ?_
    refine vX6_75 hZ dX6_told_5 (by first | exact hC | exact isC1 | exact isC7 | exact isC13) (t_X0_has isC1 (by omega) hn) (fun a5 M5 r5 h5 => ?_)
    try simp only [Nat.reduceAdd] at h5
    obtain ⟨e5, h5⟩ := h5
    replace e5 := e5.symm
    subst e5
    refine f_ne (tgt := 14) hZ dX6_told_8 rfl (by omega) (fun h8 => ?_) (fun h8 => ?_)
    · have hq := hA w (by omega) (by omega)
      refine f_iload_n hZ dX6_told_14 rfl ?_
      refine f_tswIn (tgt := 64) hZ (0) dX6_told_15 (by first | rfl | omega) (by omega) (by omega) (by omega) rfl rfl ?_
      refine f_aload_n hZ dX6_told_64 rfl ?_
      refine gX6_10 hZ dX6_told_65 ?_
      refine gX6_79_1 hZ dX6_told_68 ?_
      refine f_iload_n hZ dX6_told_71 rfl ?_
      refine f_iaload hZ dX6_told_72 (by first | rfl | exact hC.t1 | exact hC.t2 | exact hC.t3 | exact hC.t4 | exact hC.t5) (by first | rfl | exact hC.l1 | exact hC.l2 | exact hC.l3 | exact hC.l4 | exact hC.l5) (by omega) (by omega) (fun r72 => ?_)
      exact f_retI hZ hR dX6_told_73 rfl (by omega) (by first | exact ⟨rfl, by unfold toldZ; rw [if_pos (by omega)]⟩ | exact ⟨rfl, by unfold toldZ; rw [if_neg (by omega)]; rfl⟩)
    · refine f_bipush hZ dX6_told_11 ?_
      exact f_retI hZ hR dX6_told_13 rfl (by omega) (by first | exact ⟨rfl, by unfold toldZ; rw [if_pos (by omega)]⟩ | exact ⟨rfl, by unfold toldZ; rw [if_neg (by omega)]; rfl⟩)
  · refine f_aload_n hZ dX6_told_0 rfl ?_
    refine gX6_10 hZ dX6_told_1 ?_
    refine f_iload_n hZ dX6_told_4 rfl ?_
    refine vX6_75 hZ dX6_told_5 (by first | exact hC | exact isC1 | exact isC7 | exact isC13) (t_X0_has isC1 (by omega) hn) (fun a5 M5 r5 h5 => ?_)
    try simp only [Nat.reduceAdd] at h5
    obtain ⟨e5, h5⟩ := h5
    replace e5 := e5.symm
    subst e5
    refine f_ne (tgt := 14) hZ dX6_told_8 rfl (by omega) (fun h8 => ?_) (fun h8 => ?_)
    · have hq := hA w (by omega) (by omega)
      refine f_iload_n hZ dX6_told_14 rfl ?_
      refine f_tswIn (tgt := 74) hZ (1) dX6_told_15 (by first | rfl | omega) (by omega) (by omega) (by omega) rfl rfl ?_
      refine f_aload_n hZ dX6_told_74 rfl ?_
      refine gX6_10 hZ dX6_told_75 ?_
      refine gX6_97_1 hZ dX6_told_78 ?_
      refine f_iload_n hZ dX6_told_81 rfl ?_
      refine f_iaload hZ dX6_told_82 (by first | rfl | exact hC.t1 | exact hC.t2 | exact hC.t3 | exact hC.t4 | exact hC.t5) (by first | rfl | exact hC.l1 | exact hC.l2 | exact hC.l3 | exact hC.l4 | exact hC.l5) (by omega) (by omega) (fun r82 => ?_)
      exact f_retI hZ hR dX6_told_83 rfl (by omega) (by first | exact ⟨rfl, by unfold toldZ; rw [if_pos (by omega)]⟩ | exact ⟨rfl, by unfold toldZ; rw [if_neg (by omega)]; rfl⟩)
    · refine f_bipush hZ dX6_told_11 ?_
      exact f_retI hZ hR dX6_told_13 rfl (by omega) (by first | exact ⟨rfl, by unfold toldZ; rw [if_pos (by omega)]⟩ | exact ⟨rfl, by unfold toldZ; rw [if_neg (by omega)]; rfl⟩)
  · refine f_aload_n hZ dX6_told_0 rfl ?_
    refine gX6_10 hZ dX6_told_1 ?_
    refine f_iload_n hZ dX6_told_4 rfl ?_
    refine vX6_75 hZ dX6_told_5 (by first | exact hC | exact isC1 | exact isC7 | exact isC13) (t_X0_has isC1 (by omega) hn) (fun a5 M5 r5 h5 => ?_)
    try simp only [Nat.reduceAdd] at h5
    obtain ⟨e5, h5⟩ := h5
    replace e5 := e5.symm
    subst e5
    refine f_ne (tgt := 14) hZ dX6_told_8 rfl (by omega) (fun h8 => ?_) (fun h8 => ?_)
    · have hq := hA w (by omega) (by omega)
      refine f_iload_n hZ dX6_told_14 rfl ?_
      refine f_tswIn (tgt := 84) hZ (2) dX6_told_15 (by first | rfl | omega) (by omega) (by omega) (by omega) rfl rfl ?_
      refine f_aload_n hZ dX6_told_84 rfl ?_
      refine gX6_10 hZ dX6_told_85 ?_
      refine gX6_100_1 hZ dX6_told_88 ?_
      refine f_iload_n hZ dX6_told_91 rfl ?_
      refine f_iaload hZ dX6_told_92 (by first | rfl | exact hC.t1 | exact hC.t2 | exact hC.t3 | exact hC.t4 | exact hC.t5) (by first | rfl | exact hC.l1 | exact hC.l2 | exact hC.l3 | exact hC.l4 | exact hC.l5) (by omega) (by omega) (fun r92 => ?_)
      exact f_retI hZ hR dX6_told_93 rfl (by omega) (by first | exact ⟨rfl, by unfold toldZ; rw [if_pos (by omega)]⟩ | exact ⟨rfl, by unfold toldZ; rw [if_neg (by omega)]; rfl⟩)
    · refine f_bipush hZ dX6_told_11 ?_
      exact f_retI hZ hR dX6_told_13 rfl (by omega) (by first | exact ⟨rfl, by unfold toldZ; rw [if_pos (by omega)]⟩ | exact ⟨rfl, by unfold toldZ; rw [if_neg (by omega)]; rfl⟩)
  · refine f_aload_n hZ dX6_told_0 rfl ?_
    refine gX6_10 hZ dX6_told_1 ?_
    refine f_iload_n hZ dX6_told_4 rfl ?_
    refine vX6_75 hZ dX6_told_5 (by first | exact hC | exact isC1 | exact isC7 | exact isC13) (t_X0_has isC1 (by omega) hn) (fun a5 M5 r5 h5 => ?_)
    try simp only [Nat.reduceAdd] at h5
    obtain ⟨e5, h5⟩ := h5
    replace e5 := e5.symm
    subst e5
    refine f_ne (tgt := 14) hZ dX6_told_8 rfl (by omega) (fun h8 => ?_) (fun h8 => ?_)
    · have hq := hA w (by omega) (by omega)
      refine f_iload_n hZ dX6_told_14 rfl ?_
      refine f_tswIn (tgt := 94) hZ (3) dX6_told_15 (by first | rfl | omega) (by omega) (by omega) (by omega) rfl rfl ?_
      refine f_aload_n hZ dX6_told_94 rfl ?_
      refine gX6_10 hZ dX6_told_95 ?_
      refine gX6_103_1 hZ dX6_told_98 ?_
      refine f_iload_n hZ dX6_told_101 rfl ?_
      refine f_iaload hZ dX6_told_102 (by first | rfl | exact hC.t1 | exact hC.t2 | exact hC.t3 | exact hC.t4 | exact hC.t5) (by first | rfl | exact hC.l1 | exact hC.l2 | exact hC.l3 | exact hC.l4 | exact hC.l5) (by omega) (by omega) (fun r102 => ?_)
      exact f_retI hZ hR dX6_told_103 rfl (by omega) (by first | exact ⟨rfl, by unfold toldZ; rw [if_pos (by omega)]⟩ | exact ⟨rfl, by unfold toldZ; rw [if_neg (by omega)]; rfl⟩)
    · refine f_bipush hZ dX6_told_11 ?_
      exact f_retI hZ hR dX6_told_13 rfl (by omega) (by first | exact ⟨rfl, by unfold toldZ; rw [if_pos (by omega)]⟩ | exact ⟨rfl, by unfold toldZ; rw [if_neg (by omega)]; rfl⟩)
  · refine f_aload_n hZ dX6_told_0 rfl ?_
    refine gX6_10 hZ dX6_told_1 ?_
    refine f_iload_n hZ dX6_told_4 rfl ?_
    refine vX6_75 hZ dX6_told_5 (by first | exact hC | exact isC1 | exact isC7 | exact isC13) (t_X0_has isC1 (by omega) hn) (fun a5 M5 r5 h5 => ?_)
    try simp only [Nat.reduceAdd] at h5
    obtain ⟨e5, h5⟩ := h5
    replace e5 := e5.symm
    subst e5
    refine f_ne (tgt := 14) hZ dX6_told_8 rfl (by omega) (fun h8 => ?_) (fun h8 => ?_)
    · have hq := hA w (by omega) (by omega)
      refine f_iload_n hZ dX6_told_14 rfl ?_
      refine f_tswIn (tgt := 104) hZ (4) dX6_told_15 (by first | rfl | omega) (by omega) (by omega) (by omega) rfl rfl ?_
      refine f_aload_n hZ dX6_told_104 rfl ?_
      refine gX6_10 hZ dX6_told_105 ?_
      refine gX6_106_1 hZ dX6_told_108 ?_
      refine f_iload_n hZ dX6_told_111 rfl ?_
      refine f_iaload hZ dX6_told_112 (by first | rfl | exact hC.t1 | exact hC.t2 | exact hC.t3 | exact hC.t4 | exact hC.t5) (by first | rfl | exact hC.l1 | exact hC.l2 | exact hC.l3 | exact hC.l4 | exact hC.l5) (by omega) (by omega) (fun r112 => ?_)
      exact f_retI hZ hR dX6_told_113 rfl (by omega) (by first | exact ⟨rfl, by unfold toldZ; rw [if_pos (by omega)]⟩ | exact ⟨rfl, by unfold toldZ; rw [if_neg (by omega)]; rfl⟩)
    · refine f_bipush hZ dX6_told_11 ?_
      exact f_retI hZ hR dX6_told_13 rfl (by omega) (by first | exact ⟨rfl, by unfold toldZ; rw [if_pos (by omega)]⟩ | exact ⟨rfl, by unfold toldZ; rw [if_neg (by omega)]; rfl⟩)
  · refine f_aload_n hZ dX6_told_0 rfl ?_
    refine gX6_10 hZ dX6_told_1 ?_
    refine f_iload_n hZ dX6_told_4 rfl ?_
    refine vX6_75 hZ dX6_told_5 (by first | exact hC | exact isC1 | exact isC7 | exact isC13) (t_X0_has isC1 (by omega) hn) (fun a5 M5 r5 h5 => ?_)
    try simp only [Nat.reduceAdd] at h5
    obtain ⟨e5, h5⟩ := h5
    replace e5 := e5.symm
    subst e5
    refine f_ne (tgt := 14) hZ dX6_told_8 rfl (by omega) (fun h8 => ?_) (fun h8 => ?_)
    · have hq := hA w (by omega) (by omega)
      refine f_iload_n hZ dX6_told_14 rfl ?_
      refine f_tswIn (tgt := 114) hZ (5) dX6_told_15 (by first | rfl | omega) (by omega) (by omega) (by omega) rfl rfl ?_
      refine f_aload_n hZ dX6_told_114 rfl ?_
      refine gX6_10 hZ dX6_told_115 ?_
      refine f_iload_n hZ dX6_told_118 rfl ?_
      refine f_aload_n hZ dX6_told_119 rfl ?_
      refine gX6_10 hZ dX6_told_120 ?_
      refine gX6_97_1 hZ dX6_told_123 ?_
      refine f_iload_n hZ dX6_told_126 rfl ?_
      refine f_iaload hZ dX6_told_127 (by first | rfl | exact hC.t1 | exact hC.t2 | exact hC.t3 | exact hC.t4 | exact hC.t5) (by first | rfl | exact hC.l1 | exact hC.l2 | exact hC.l3 | exact hC.l4 | exact hC.l5) (by omega) (by omega) (fun r127 => ?_)
      refine f_aload_n hZ dX6_told_128 rfl ?_
      refine gX6_10 hZ dX6_told_129 ?_
      refine gX6_91_1 hZ dX6_told_132 (fun r132 => ?_)
      refine vX6_109 hZ dX6_told_135 (by first | exact hC | exact isC1 | exact isC7 | exact isC13) (t_X0_fast isC1 (by omega) (by omega) (by omega) hn hA) (fun a135 M135 r135 h135 => ?_)
      try simp only [Nat.reduceAdd] at h135
      obtain ⟨e135, h135⟩ := h135
      replace e135 := e135.symm
      subst e135
      rw [if_pos (by omega)] at h135
      subst h135
      have hF := fastZ_rg (k := M 2 w) (n := M 3 w) (l := M 5 w) (by omega) (by omega) hdm
      exact f_retI hZ hR dX6_told_138 rfl (by omega) (by first | exact ⟨rfl, by unfold toldZ; rw [if_pos (by omega)]⟩ | exact ⟨rfl, by unfold toldZ; rw [if_neg (by omega)]; rfl⟩)
    · refine f_bipush hZ dX6_told_11 ?_
      exact f_retI hZ hR dX6_told_13 rfl (by omega) (by first | exact ⟨rfl, by unfold toldZ; rw [if_pos (by omega)]⟩ | exact ⟨rfl, by unfold toldZ; rw [if_neg (by omega)]; rfl⟩)
  · refine f_aload_n hZ dX6_told_0 rfl ?_
    refine gX6_10 hZ dX6_told_1 ?_
    refine f_iload_n hZ dX6_told_4 rfl ?_
    refine vX6_75 hZ dX6_told_5 (by first | exact hC | exact isC1 | exact isC7 | exact isC13) (t_X0_has isC1 (by omega) hn) (fun a5 M5 r5 h5 => ?_)
    try simp only [Nat.reduceAdd] at h5
    obtain ⟨e5, h5⟩ := h5
    replace e5 := e5.symm
    subst e5
    refine f_ne (tgt := 14) hZ dX6_told_8 rfl (by omega) (fun h8 => ?_) (fun h8 => ?_)
    · have hq := hA w (by omega) (by omega)
      refine f_iload_n hZ dX6_told_14 rfl ?_
      refine f_tswIn (tgt := 139) hZ (6) dX6_told_15 (by first | rfl | omega) (by omega) (by omega) (by omega) rfl rfl ?_
      refine f_aload_n hZ dX6_told_139 rfl ?_
      refine gX6_10 hZ dX6_told_140 ?_
      refine f_iload_n hZ dX6_told_143 rfl ?_
      refine f_aload_n hZ dX6_told_144 rfl ?_
      refine gX6_10 hZ dX6_told_145 ?_
      refine gX6_100_1 hZ dX6_told_148 ?_
      refine f_iload_n hZ dX6_told_151 rfl ?_
      refine f_iaload hZ dX6_told_152 (by first | rfl | exact hC.t1 | exact hC.t2 | exact hC.t3 | exact hC.t4 | exact hC.t5) (by first | rfl | exact hC.l1 | exact hC.l2 | exact hC.l3 | exact hC.l4 | exact hC.l5) (by omega) (by omega) (fun r152 => ?_)
      refine vX6_112 hZ dX6_told_153 (by first | exact hC | exact isC1 | exact isC7 | exact isC13) (t_X0_ash isC1 (by show 0 ≤ w ∧ w < M 1 5; omega) (by omega) hn hA) (fun a153 M153 r153 h153 => ?_)
      try simp only [Nat.reduceAdd] at h153
      obtain ⟨e153, h153⟩ := h153
      replace e153 := e153.symm
      subst e153
      subst h153
      have hF := ashZ_rg (k := M 2 w) (n := M 3 w) (b := M 6 w) (by omega) (by omega)
      exact f_retI hZ hR dX6_told_156 rfl (by omega) (by first | exact ⟨rfl, by unfold toldZ; rw [if_pos (by omega)]⟩ | exact ⟨rfl, by unfold toldZ; rw [if_neg (by omega)]; rfl⟩)
    · refine f_bipush hZ dX6_told_11 ?_
      exact f_retI hZ hR dX6_told_13 rfl (by omega) (by first | exact ⟨rfl, by unfold toldZ; rw [if_pos (by omega)]⟩ | exact ⟨rfl, by unfold toldZ; rw [if_neg (by omega)]; rfl⟩)
  · refine f_aload_n hZ dX6_told_0 rfl ?_
    refine gX6_10 hZ dX6_told_1 ?_
    refine f_iload_n hZ dX6_told_4 rfl ?_
    refine vX6_75 hZ dX6_told_5 (by first | exact hC | exact isC1 | exact isC7 | exact isC13) (t_X0_has isC1 (by omega) hn) (fun a5 M5 r5 h5 => ?_)
    try simp only [Nat.reduceAdd] at h5
    obtain ⟨e5, h5⟩ := h5
    replace e5 := e5.symm
    subst e5
    refine f_ne (tgt := 14) hZ dX6_told_8 rfl (by omega) (fun h8 => ?_) (fun h8 => ?_)
    · have hq := hA w (by omega) (by omega)
      refine f_iload_n hZ dX6_told_14 rfl ?_
      refine f_tswIn (tgt := 157) hZ (7) dX6_told_15 (by first | rfl | omega) (by omega) (by omega) (by omega) rfl rfl ?_
      refine f_aload_n hZ dX6_told_157 rfl ?_
      refine gX6_10 hZ dX6_told_158 ?_
      refine f_iload_n hZ dX6_told_161 rfl ?_
      refine f_iconst hZ dX6_told_162 ?_
      refine f_aload_n hZ dX6_told_163 rfl ?_
      refine gX6_10 hZ dX6_told_164 ?_
      refine gX6_91_1 hZ dX6_told_167 (fun r167 => ?_)
      refine vX6_109 hZ dX6_told_170 (by first | exact hC | exact isC1 | exact isC7 | exact isC13) (t_X0_fast isC1 (by omega) (by omega) (by omega) hn hA) (fun a170 M170 r170 h170 => ?_)
      try simp only [Nat.reduceAdd] at h170
      obtain ⟨e170, h170⟩ := h170
      replace e170 := e170.symm
      subst e170
      rw [if_pos (by omega)] at h170
      subst h170
      have hF := fastZ_rg (k := M 2 w) (n := M 3 w) (l := 1) (by omega) (by omega) hdm
      exact f_retI hZ hR dX6_told_173 rfl (by omega) (by first | exact ⟨rfl, by unfold toldZ; rw [if_pos (by omega)]⟩ | exact ⟨rfl, by unfold toldZ; rw [if_neg (by omega)]; rfl⟩)
    · refine f_bipush hZ dX6_told_11 ?_
      exact f_retI hZ hR dX6_told_13 rfl (by omega) (by first | exact ⟨rfl, by unfold toldZ; rw [if_pos (by omega)]⟩ | exact ⟨rfl, by unfold toldZ; rw [if_neg (by omega)]; rfl⟩)
  · refine f_aload_n hZ dX6_told_0 rfl ?_
    refine gX6_10 hZ dX6_told_1 ?_
    refine f_iload_n hZ dX6_told_4 rfl ?_
    refine vX6_75 hZ dX6_told_5 (by first | exact hC | exact isC1 | exact isC7 | exact isC13) (t_X0_has isC1 (by omega) hn) (fun a5 M5 r5 h5 => ?_)
    try simp only [Nat.reduceAdd] at h5
    obtain ⟨e5, h5⟩ := h5
    replace e5 := e5.symm
    subst e5
    refine f_ne (tgt := 14) hZ dX6_told_8 rfl (by omega) (fun h8 => ?_) (fun h8 => ?_)
    · have hq := hA w (by omega) (by omega)
      refine f_iload_n hZ dX6_told_14 rfl ?_
      refine f_tswIn (tgt := 174) hZ (8) dX6_told_15 (by first | rfl | omega) (by omega) (by omega) (by omega) rfl rfl ?_
      refine f_aload_n hZ dX6_told_174 rfl ?_
      refine gX6_10 hZ dX6_told_175 ?_
      refine f_iload_n hZ dX6_told_178 rfl ?_
      refine f_iconst hZ dX6_told_179 ?_
      refine f_aload_n hZ dX6_told_180 rfl ?_
      refine gX6_10 hZ dX6_told_181 ?_
      refine gX6_91_1 hZ dX6_told_184 (fun r184 => ?_)
      refine vX6_109 hZ dX6_told_187 (by first | exact hC | exact isC1 | exact isC7 | exact isC13) (t_X0_fast isC1 (by omega) (by omega) (by omega) hn hA) (fun a187 M187 r187 h187 => ?_)
      try simp only [Nat.reduceAdd] at h187
      obtain ⟨e187, h187⟩ := h187
      replace e187 := e187.symm
      subst e187
      rw [if_pos (by omega)] at h187
      subst h187
      have hF := fastZ_rg (k := M 2 w) (n := M 3 w) (l := 2) (by omega) (by omega) hdm
      exact f_retI hZ hR dX6_told_190 rfl (by omega) (by first | exact ⟨rfl, by unfold toldZ; rw [if_pos (by omega)]⟩ | exact ⟨rfl, by unfold toldZ; rw [if_neg (by omega)]; rfl⟩)
    · refine f_bipush hZ dX6_told_11 ?_
      exact f_retI hZ hR dX6_told_13 rfl (by omega) (by first | exact ⟨rfl, by unfold toldZ; rw [if_pos (by omega)]⟩ | exact ⟨rfl, by unfold toldZ; rw [if_neg (by omega)]; rfl⟩)

set_option maxRecDepth 20000 in
set_option maxHeartbeats 4000000 in
theorem t_X6_feed {X : fX} {M : fM} {d : Nat} {b : Int} (hb : rg b) (ht : 0 ≤ M 19 6 ∧ M 19 6 ≤ 160) : fC X (d + 1) mX6_feed [.ref (xa X 0), .int (iv b)] M (QI fun r M' => (¬ (0 ≤ b ∧ b ≤ 255) ∧ r = -2 ∧ M' = M) ∨ ((0 ≤ b ∧ b ≤ 255) ∧ M 19 6 = 160 ∧ r = -4 ∧ M' = M) ∨ ((0 ≤ b ∧ b ≤ 255) ∧ M 19 6 < 160 ∧ r = M 19 6 + 1 ∧ M' = up (up M 20 (M 19 6) b) 19 6 (M 19 6 + 1))) := by
  refine fC.of (L := [_, _]) (by decide +kernel) rfl (Nat.le_of_ble_eq_true rfl) (fun Z hZ hR => ?_)
  refine f_iload_n hZ dX6_feed_0 rfl ?_
  refine f_iconst hZ dX6_feed_1 ?_
  refine f_sipush hZ dX6_feed_2 ?_
  refine sX6_56 hZ dX6_feed_5 (t_X6_within (by omega) (by omega) (by omega)) (fun a5 M5 r5 h5 => ?_)
  obtain ⟨e5, h5⟩ := h5
  replace e5 := e5.symm
  subst e5
  refine f_ne (tgt := 14) hZ dX6_feed_8 rfl (by omega) (fun h8 => ?_) (fun h8 => ?_)
  · refine f_aload_n hZ dX6_feed_14 rfl ?_
    refine gX6_25 hZ dX6_feed_15 ?_
    refine f_iload_n hZ dX6_feed_18 rfl ?_
    refine vX6_116 hZ dX6_feed_19 (t_X5_append (by omega) ht) (fun a19 M19 r19 h19 => ?_)
    exact f_retI hZ hR dX6_feed_22 rfl (by omega) (by first | exact Or.inl ⟨by omega, rfl, rfl⟩ | (rcases h19 with ⟨x1, x2, x3⟩ | ⟨x1, x2, x3⟩; exact Or.inr (Or.inl ⟨by omega, x1, x2, x3⟩); exact Or.inr (Or.inr ⟨by omega, x1, x2, x3⟩)))
  · refine f_bipush hZ dX6_feed_11 ?_
    exact f_retI hZ hR dX6_feed_13 rfl (by omega) (by first | exact Or.inl ⟨by omega, rfl, rfl⟩ | (rcases h19 with ⟨x1, x2, x3⟩ | ⟨x1, x2, x3⟩; exact Or.inr (Or.inl ⟨by omega, x1, x2, x3⟩); exact Or.inr (Or.inr ⟨by omega, x1, x2, x3⟩)))

set_option maxRecDepth 20000 in
set_option maxHeartbeats 4000000 in
theorem t_X6_force {X : fX} {M : fM} {d : Nat} {t : Int} (hb : rg t) (ht : 1 ≤ M 19 7 ∧ M 19 7 ≤ 6) : fC X (d + 1) mX6_force [.ref (xa X 0), .int (iv t)] M (QI fun r M' => (¬ (0 ≤ t ∧ t < M 19 7) ∧ r = -2 ∧ M' = M) ∨ ((0 ≤ t ∧ t < M 19 7) ∧ r = M 1 8 ∧ M' = fgt (up M 1 8 t))) := by
  refine fC.of (L := [_, _, _]) (by decide +kernel) rfl (Nat.le_of_ble_eq_true rfl) (fun Z hZ hR => ?_)
  refine f_iload_n hZ dX6_force_0 rfl ?_
  refine f_iconst hZ dX6_force_1 ?_
  refine f_aload_n hZ dX6_force_2 rfl ?_
  refine gX6_25 hZ dX6_force_3 ?_
  refine gX6_123 hZ dX6_force_6 (fun r6 => ?_)
  refine f_iconst hZ dX6_force_9 ?_
  refine f_isub hZ dX6_force_10 ?_
  refine sX6_56 hZ dX6_force_11 (t_X6_within (by omega) (by omega) (by omega)) (fun a11 M11 r11 h11 => ?_)
  obtain ⟨e11, h11⟩ := h11
  replace e11 := e11.symm
  subst e11
  refine f_ne (tgt := 20) hZ dX6_force_14 rfl (by omega) (fun h14 => ?_) (fun h14 => ?_)
  · refine f_aload_n hZ dX6_force_20 rfl ?_
    refine gX6_10 hZ dX6_force_21 ?_
    refine gX6_124_1 hZ dX6_force_24 (fun r24 => ?_)
    refine f_istore_n (L' := [_, _, _]) hZ dX6_force_27 rfl rfl ?_
    refine f_aload_n hZ dX6_force_28 rfl ?_
    refine gX6_10 hZ dX6_force_29 ?_
    refine f_iload_n hZ dX6_force_32 rfl ?_
    refine pX6_124 hZ dX6_force_33 (by first | exact hC | exact isC1 | exact isC7 | exact isC13) (by omega) ?_
    refine f_aload_n hZ dX6_force_36 rfl ?_
    refine gX6_34 hZ dX6_force_37 ?_
    refine vX6_64 hZ dX6_force_40 (t_X4_forget) (fun M40 h40 => ?_)
    subst h40
    refine f_iload_n hZ dX6_force_43 rfl ?_
    exact f_retI hZ hR dX6_force_44 rfl (by omega) (by first | exact Or.inl ⟨by omega, rfl, rfl⟩ | exact Or.inr ⟨by omega, rfl, rfl⟩)
  · refine f_bipush hZ dX6_force_17 ?_
    exact f_retI hZ hR dX6_force_19 rfl (by omega) (by first | exact Or.inl ⟨by omega, rfl, rfl⟩ | exact Or.inr ⟨by omega, rfl, rfl⟩)

set_option maxRecDepth 20000 in
set_option maxHeartbeats 4000000 in
theorem t_X6_light {X : fX} {M : fM} {d : Nat} {w e : Int} (hw : rg w) (he : rg e) (hW : WfK M) : fC X (d + 2) mX6_light [.ref (xa X 0), .int (iv w), .int (iv e)] M (QI fun r M' => (¬ (0 ≤ w ∧ w < M 1 5 ∧ 1 ≤ e ∧ e ≤ 2) ∧ r = -2 ∧ M' = M) ∨ ((0 ≤ w ∧ w < M 1 5 ∧ 1 ≤ e ∧ e ≤ 2) ∧ ¬ (0 < M 4 w ∧ M 5 w + e ≤ 2) ∧ r = -3 ∧ M' = M) ∨ ((0 ≤ w ∧ w < M 1 5 ∧ 1 ≤ e ∧ e ≤ 2) ∧ (0 < M 4 w ∧ M 5 w + e ≤ 2) ∧ r = M 5 w + e ∧ M' = fgt (up M 5 w (M 5 w + e)))) := by
  refine fC.of (L := [_, _, _]) (by decide +kernel) rfl (Nat.le_of_ble_eq_true rfl) (fun Z hZ hR => ?_)
  obtain ⟨hn, hdm, hmo, hA⟩ := hW
  replace hA : WfA (M 1 5) (M 2) (M 3) (M 4) (M 5) (M 6) := hA
  refine f_aload_n hZ dX6_light_0 rfl ?_
  refine gX6_10 hZ dX6_light_1 ?_
  refine f_iload_n hZ dX6_light_4 rfl ?_
  refine vX6_75 hZ dX6_light_5 (by first | exact hC | exact isC1 | exact isC7 | exact isC13) (t_X0_has isC1 (by omega) hn) (fun a5 M5 r5 h5 => ?_)
  try simp only [Nat.reduceAdd] at h5
  obtain ⟨e5, h5⟩ := h5
  replace e5 := e5.symm
  subst e5
  refine f_eq (tgt := 20) hZ dX6_light_8 rfl (by omega) (fun h8 => ?_) (fun h8 => ?_)
  · refine f_bipush hZ dX6_light_20 ?_
    exact f_retI hZ hR dX6_light_22 rfl (by omega) (by first | exact Or.inl ⟨by omega, rfl, rfl⟩ | exact Or.inr (Or.inl ⟨by omega, by omega, rfl, rfl⟩) | exact Or.inr (Or.inr ⟨by omega, by omega, rfl, rfl⟩))
  · refine f_iload_n hZ dX6_light_11 rfl ?_
    refine f_iconst hZ dX6_light_12 ?_
    refine f_iconst hZ dX6_light_13 ?_
    refine sX6_56 hZ dX6_light_14 (t_X6_within (by omega) (by omega) (by omega)) (fun a14 M14 r14 h14 => ?_)
    obtain ⟨e14, h14⟩ := h14
    replace e14 := e14.symm
    subst e14
    refine f_ne (tgt := 23) hZ dX6_light_17 rfl (by omega) (fun h17 => ?_) (fun h17 => ?_)
    · have hq := hA w (by omega) (by omega)
      refine f_aload_n hZ dX6_light_23 rfl ?_
      refine gX6_10 hZ dX6_light_24 ?_
      refine f_iload_n hZ dX6_light_27 rfl ?_
      refine f_iload_n hZ dX6_light_28 rfl ?_
      refine vX6_127 hZ dX6_light_29 (by first | exact hC | exact isC1 | exact isC7 | exact isC13) (t_X0_kindles isC1 (by show 0 ≤ w ∧ w < M 1 5; omega) (by omega) hn hA) (fun a29 M29 r29 h29 => ?_)
      try simp only [Nat.reduceAdd] at h29
      refine f_ne (tgt := 38) hZ dX6_light_32 rfl (by omega) (fun h32 => ?_) (fun h32 => ?_)
      · rcases h29 with ⟨hk, -⟩ | ⟨-, hk, rfl⟩
        · exfalso; omega
        refine f_aload_n hZ dX6_light_38 rfl ?_
        refine gX6_34 hZ dX6_light_39 ?_
        refine vX6_64 hZ dX6_light_42 (t_X4_forget) (fun M42 h42 => ?_)
        subst h42
        refine f_aload_n hZ dX6_light_45 rfl ?_
        refine gX6_10 hZ dX6_light_46 ?_
        refine gX6_97_1 hZ dX6_light_49 ?_
        refine f_iload_n hZ dX6_light_52 rfl ?_
        refine f_iaload hZ dX6_light_53 (by first | rfl | exact hC.t1 | exact hC.t2 | exact hC.t3 | exact hC.t4 | exact hC.t5) (by first | rfl | exact hC.l1 | exact hC.l2 | exact hC.l3 | exact hC.l4 | exact hC.l5) (by omega) (by omega) (fun r53 => ?_)
        try simp only [up_app, Nat.reduceEqDiff, Nat.reduceEqDiff, Int.reduceEq, and_true, true_and, and_false, false_and, if_true, if_false, reduceIte] at r53 ⊢
        exact f_retI hZ hR dX6_light_54 rfl (by omega) (by first | exact Or.inl ⟨by omega, rfl, rfl⟩ | exact Or.inr (Or.inl ⟨by omega, by omega, rfl, rfl⟩) | exact Or.inr (Or.inr ⟨by omega, by omega, rfl, rfl⟩))
      · rcases h29 with ⟨-, hk, rfl⟩ | ⟨hk, -⟩
        rotate_left
        · exfalso; omega
        refine f_bipush hZ dX6_light_35 ?_
        exact f_retI hZ hR dX6_light_37 rfl (by omega) (by first | exact Or.inl ⟨by omega, rfl, rfl⟩ | exact Or.inr (Or.inl ⟨by omega, by omega, rfl, rfl⟩) | exact Or.inr (Or.inr ⟨by omega, by omega, rfl, rfl⟩))
    · refine f_bipush hZ dX6_light_20 ?_
      exact f_retI hZ hR dX6_light_22 rfl (by omega) (by first | exact Or.inl ⟨by omega, rfl, rfl⟩ | exact Or.inr (Or.inl ⟨by omega, by omega, rfl, rfl⟩) | exact Or.inr (Or.inr ⟨by omega, by omega, rfl, rfl⟩))

set_option maxRecDepth 20000 in
set_option maxHeartbeats 4000000 in
theorem t_X6_burn {X : fX} {M : fM} {d : Nat} {n : Int} (hr : rg n) (hW : WfK M) : fC X (d + 4) mX6_burn [.ref (xa X 0), .int (iv n)] M (QI fun r M' => (¬ (0 ≤ n ∧ n ≤ 250) ∧ r = -2 ∧ M' = M) ∨ ((0 ≤ n ∧ n ≤ 250) ∧ r = sumZ (bOc (fgt M) 1 n) (M 1 5) ∧ M' = up (bMc (fgt M) 1 n (M 1 5)) 1 7 (min 9999 (M 1 7 + n)))) := by
  refine fC.of (L := [_, _]) (by decide +kernel) rfl (Nat.le_of_ble_eq_true rfl) (fun Z hZ hR => ?_)
  refine f_iload_n hZ dX6_burn_0 rfl ?_
  refine f_iconst hZ dX6_burn_1 ?_
  refine f_sipush hZ dX6_burn_2 ?_
  refine sX6_56 hZ dX6_burn_5 (t_X6_within (by omega) (by omega) (by omega)) (fun a5 M5 r5 h5 => ?_)
  obtain ⟨e5, h5⟩ := h5
  replace e5 := e5.symm
  subst e5
  refine f_ne (tgt := 14) hZ dX6_burn_8 rfl (by omega) (fun h8 => ?_) (fun h8 => ?_)
  · refine f_aload_n hZ dX6_burn_14 rfl ?_
    refine gX6_34 hZ dX6_burn_15 ?_
    refine vX6_64 hZ dX6_burn_18 (t_X4_forget) (fun M18 h18 => ?_)
    subst h18
    refine f_aload_n hZ dX6_burn_21 rfl ?_
    refine gX6_10 hZ dX6_burn_22 ?_
    refine f_iload_n hZ dX6_burn_25 rfl ?_
    refine vX6_131 hZ dX6_burn_26 (by first | exact hC | exact isC1 | exact isC7 | exact isC13) (t_X0_pass isC1 (by omega) hW) (fun a26 M26 r26 h26 => ?_)
    try simp only [Nat.reduceAdd] at h26
    obtain ⟨rfl, rfl⟩ := h26
    exact f_retI hZ hR dX6_burn_29 rfl (by omega) (by first | exact Or.inl ⟨by omega, rfl, rfl⟩ | exact Or.inr ⟨by omega, rfl, rfl⟩)
  · refine f_bipush hZ dX6_burn_11 ?_
    exact f_retI hZ hR dX6_burn_13 rfl (by omega) (by first | exact Or.inl ⟨by omega, rfl, rfl⟩ | exact Or.inr ⟨by omega, rfl, rfl⟩)

set_option maxRecDepth 20000 in
set_option maxHeartbeats 4000000 in
theorem t_X6_out {X : fX} {M : fM} {d : Nat} {w : Int} (hw : rg w) (hW : WfK M) : fC X (d + 3) mX6_out [.ref (xa X 0), .int (iv w)] M (QI fun r M' => M' = M ∧ r = outZ (M 1 5) (M 2) (M 3) (M 4) (M 5) (M 1 6) w) := by
  refine fC.of (L := [_, _]) (by decide +kernel) rfl (Nat.le_of_ble_eq_true rfl) (fun Z hZ hR => ?_)
  obtain ⟨hn, hdm, hmo, hA⟩ := hW
  replace hA : WfA (M 1 5) (M 2) (M 3) (M 4) (M 5) (M 6) := hA
  refine f_aload_n hZ dX6_out_0 rfl ?_
  refine gX6_10 hZ dX6_out_1 ?_
  refine f_iload_n hZ dX6_out_4 rfl ?_
  refine vX6_75 hZ dX6_out_5 (by first | exact hC | exact isC1 | exact isC7 | exact isC13) (t_X0_has isC1 (by omega) hn) (fun a5 M5 r5 h5 => ?_)
  try simp only [Nat.reduceAdd] at h5
  obtain ⟨e5, h5⟩ := h5
  replace e5 := e5.symm
  subst e5
  refine f_ne (tgt := 14) hZ dX6_out_8 rfl (by omega) (fun h8 => ?_) (fun h8 => ?_)
  · have hq := hA w (by omega) (by omega)
    refine f_aload_n hZ dX6_out_14 rfl ?_
    refine gX6_10 hZ dX6_out_15 ?_
    refine gX6_97_1 hZ dX6_out_18 ?_
    refine f_iload_n hZ dX6_out_21 rfl ?_
    refine f_iaload hZ dX6_out_22 (by first | rfl | exact hC.t1 | exact hC.t2 | exact hC.t3 | exact hC.t4 | exact hC.t5) (by first | rfl | exact hC.l1 | exact hC.l2 | exact hC.l3 | exact hC.l4 | exact hC.l5) (by omega) (by omega) (fun r22 => ?_)
    refine f_ne (tgt := 30) hZ dX6_out_23 rfl (by omega) (fun h23 => ?_) (fun h23 => ?_)
    · refine f_aload_n hZ dX6_out_30 rfl ?_
      refine gX6_10 hZ dX6_out_31 ?_
      refine f_iload_n hZ dX6_out_34 rfl ?_
      refine f_aload_n hZ dX6_out_35 rfl ?_
      refine gX6_10 hZ dX6_out_36 ?_
      refine gX6_97_1 hZ dX6_out_39 ?_
      refine f_iload_n hZ dX6_out_42 rfl ?_
      refine f_iaload hZ dX6_out_43 (by first | rfl | exact hC.t1 | exact hC.t2 | exact hC.t3 | exact hC.t4 | exact hC.t5) (by first | rfl | exact hC.l1 | exact hC.l2 | exact hC.l3 | exact hC.l4 | exact hC.l5) (by omega) (by omega) (fun r43 => ?_)
      refine f_aload_n hZ dX6_out_44 rfl ?_
      refine gX6_10 hZ dX6_out_45 ?_
      refine gX6_91_1 hZ dX6_out_48 (fun r48 => ?_)
      refine vX6_134 hZ dX6_out_51 (by first | exact hC | exact isC1 | exact isC7 | exact isC13) (t_X0_lasts isC1 (by show 0 ≤ w ∧ w < M 1 5; omega) (by omega) (by omega) hn hA) (fun a51 M51 r51 h51 => ?_)
      try simp only [Nat.reduceAdd] at h51
      obtain ⟨e51, h51⟩ := h51
      replace e51 := e51.symm
      subst e51
      rw [if_neg (by omega)] at h51
      exact f_retI hZ hR dX6_out_54 rfl (by omega) (by first | exact ⟨rfl, by unfold outZ; rw [if_pos (by omega)]⟩ | exact ⟨rfl, by unfold outZ; rw [if_neg (by omega), if_pos (by omega)]⟩ | exact ⟨rfl, by unfold outZ; rw [if_neg (by omega), if_neg (by omega)]; assumption⟩)
    · refine f_iconst hZ dX6_out_26 ?_
      refine f_goto (tgt := 54) hZ dX6_out_27 rfl ?_
      exact f_retI hZ hR dX6_out_54 rfl (by omega) (by first | exact ⟨rfl, by unfold outZ; rw [if_pos (by omega)]⟩ | exact ⟨rfl, by unfold outZ; rw [if_neg (by omega), if_pos (by omega)]⟩ | exact ⟨rfl, by unfold outZ; rw [if_neg (by omega), if_neg (by omega)]; assumption⟩)
  · refine f_bipush hZ dX6_out_11 ?_
    exact f_retI hZ hR dX6_out_13 rfl (by omega) (by first | exact ⟨rfl, by unfold outZ; rw [if_pos (by omega)]⟩ | exact ⟨rfl, by unfold outZ; rw [if_neg (by omega), if_pos (by omega)]⟩ | exact ⟨rfl, by unfold outZ; rw [if_neg (by omega), if_neg (by omega)]; assumption⟩)

def cheatP (P K N r : Int) : Prop := (r = -1 ∧ ∀ e, 0 ≤ e → e ≤ 9 → ¬ lastZ P (fastZ K N 1 0) < lastZ P (fastZ K N 1 e)) ∨ ((0 ≤ r ∧ r ≤ 9) ∧ lastZ P (fastZ K N 1 0) < lastZ P (fastZ K N 1 r) ∧ ∀ e, 0 ≤ e → e < r → ¬ lastZ P (fastZ K N 1 0) < lastZ P (fastZ K N 1 e))
theorem cheatP_one {P K N r s : Int} (h1 : cheatP P K N r) (h2 : cheatP P K N s) : r = s := by
  rcases h1 with ⟨a1, b1⟩ | ⟨a1, b1, c1⟩ <;> rcases h2 with ⟨a2, b2⟩ | ⟨a2, b2, c2⟩
  · omega
  · exact absurd b2 (b1 s a2.1 a2.2)
  · exact absurd b1 (b2 r a1.1 a1.2)
  · rcases Int.lt_trichotomy r s with h | h | h
    · exact absurd b1 (c2 r a1.1 h)
    · exact h
    · exact absurd b2 (c1 s a2.1 h)
set_option maxRecDepth 20000 in
set_option maxHeartbeats 4000000 in
theorem t_X6_cheat {X : fX} {M : fM} {d : Nat} {w : Int} (hw : rg w) (hW : WfK M) : fC X (d + 3) mX6_cheat [.ref (xa X 0), .int (iv w)] M (QI fun r M' => M' = M ∧ ((¬ (0 ≤ w ∧ w < M 1 5 ∧ M 4 w ≠ 0) ∧ r = -2) ∨ ((0 ≤ w ∧ w < M 1 5 ∧ M 4 w ≠ 0) ∧ cheatP (M 4 w) (M 2 w) (M 3 w) r))) := by
  obtain ⟨hn, hdm, hmo, hA⟩ := hW
  replace hA : WfA (M 1 5) (M 2) (M 3) (M 4) (M 5) (M 6) := hA
  refine fC.of (L := [_, _, _, _]) (by decide +kernel) rfl (Nat.le_of_ble_eq_true rfl) (fun Z hZ hR => ?_)
  have loop : ∀ (m : Nat) (e : Int) , 0 ≤ e → e + m = 10 → rg (lastZ (M 4 w) (fastZ (M 2 w) (M 3 w) 1 0)) → (0 ≤ w ∧ w < M 1 5 ∧ M 4 w ≠ 0) → (∀ i, 0 ≤ i → i < e → ¬ lastZ (M 4 w) (fastZ (M 2 w) (M 3 w) 1 0) < lastZ (M 4 w) (fastZ (M 2 w) (M 3 w) 1 i)) → fG X mX6_cheat Z 39 [.ref (xa X 0), .int (iv w), .int (iv (lastZ (M 4 w) (fastZ (M 2 w) (M 3 w) 1 0))), .int (iv e)] [] (M) := by
    intro m
    induction m with
    | zero =>
      intro e  h0 hw hd0 hwn hinv
      refine f_iload_n hZ dX6_cheat_39 rfl ?_
      refine f_bipush hZ dX6_cheat_40 ?_
      refine f_igt (tgt := 67) hZ dX6_cheat_42 rfl (by omega) (by omega) (fun h42 => ?_) (fun h42 => ?_)
      · refine f_iconst hZ dX6_cheat_67 ?_
        exact f_retI hZ hR dX6_cheat_68 rfl (by omega) (by exact ⟨rfl, Or.inr ⟨by omega, Or.inl ⟨rfl, fun i h1 h2 => hinv i h1 (by omega)⟩⟩⟩)
      · exfalso; omega
    | succ m ih =>
      intro e  h0 hw hd0 hwn hinv
      refine f_iload_n hZ dX6_cheat_39 rfl ?_
      refine f_bipush hZ dX6_cheat_40 ?_
      refine f_igt (tgt := 67) hZ dX6_cheat_42 rfl (by omega) (by omega) (fun h42 => ?_) (fun h42 => ?_)
      · exfalso; omega
      · refine f_aload_n hZ dX6_cheat_45 rfl ?_
        refine gX6_10 hZ dX6_cheat_46 ?_
        refine f_iload_n hZ dX6_cheat_49 rfl ?_
        refine f_iconst hZ dX6_cheat_50 ?_
        refine f_iload_n hZ dX6_cheat_51 rfl ?_
        refine vX6_134 hZ dX6_cheat_52 (by first | exact hC | exact isC1 | exact isC7 | exact isC13) (t_X0_lasts isC1 (by show 0 ≤ w ∧ w < M 1 5; omega) (by omega) (by omega) hn hA) (fun a52 M52 r52 h52 => ?_)
        try simp only [Nat.reduceAdd] at h52
        obtain ⟨e52, h52⟩ := h52
        replace e52 := e52.symm
        subst e52
        rw [if_neg (by omega)] at h52
        subst h52
        refine f_iload_n hZ dX6_cheat_55 rfl ?_
        refine f_ile (tgt := 61) hZ dX6_cheat_56 rfl (by omega) (by omega) (fun h56 => ?_) (fun h56 => ?_)
        · refine f_iinc (L' := [_, _, _, _]) hZ dX6_cheat_61 rfl rfl ?_
          refine f_goto (tgt := 39) hZ dX6_cheat_64 rfl ?_
          exact ih (e + 1) (by omega) (by omega) hd0 hwn (fun i h1 h2 => by
            by_cases hi : i = e
            · subst hi; omega
            · exact hinv i h1 (by omega))
        · refine f_iload_n hZ dX6_cheat_59 rfl ?_
          exact f_retI hZ hR dX6_cheat_60 rfl (by omega) (by exact ⟨rfl, Or.inr ⟨by omega, Or.inr ⟨by omega, by omega, fun i h1 h2 => hinv i h1 h2⟩⟩⟩)
  refine f_aload_n hZ dX6_cheat_0 rfl ?_
  refine gX6_10 hZ dX6_cheat_1 ?_
  refine f_iload_n hZ dX6_cheat_4 rfl ?_
  refine vX6_75 hZ dX6_cheat_5 (by first | exact hC | exact isC1 | exact isC7 | exact isC13) (t_X0_has isC1 (by omega) hn) (fun a5 M5 r5 h5 => ?_)
  try simp only [Nat.reduceAdd] at h5
  obtain ⟨e5, h5⟩ := h5
  replace e5 := e5.symm
  subst e5
  refine f_eq (tgt := 23) hZ dX6_cheat_8 rfl (by omega) (fun h8 => ?_) (fun h8 => ?_)
  · refine f_bipush hZ dX6_cheat_23 ?_
    exact f_retI hZ hR dX6_cheat_25 rfl (by omega) (by exact ⟨rfl, Or.inl ⟨by omega, rfl⟩⟩)
  · have hq := hA w (by omega) (by omega)
    refine f_aload_n hZ dX6_cheat_11 rfl ?_
    refine gX6_10 hZ dX6_cheat_12 ?_
    refine gX6_79_1 hZ dX6_cheat_15 ?_
    refine f_iload_n hZ dX6_cheat_18 rfl ?_
    refine f_iaload hZ dX6_cheat_19 (by first | rfl | exact hC.t1 | exact hC.t2 | exact hC.t3 | exact hC.t4 | exact hC.t5) (by first | rfl | exact hC.l1 | exact hC.l2 | exact hC.l3 | exact hC.l4 | exact hC.l5) (by omega) (by omega) (fun r19 => ?_)
    refine f_ne (tgt := 26) hZ dX6_cheat_20 rfl (by omega) (fun h20 => ?_) (fun h20 => ?_)
    · refine f_aload_n hZ dX6_cheat_26 rfl ?_
      refine gX6_10 hZ dX6_cheat_27 ?_
      refine f_iload_n hZ dX6_cheat_30 rfl ?_
      refine f_iconst hZ dX6_cheat_31 ?_
      refine f_iconst hZ dX6_cheat_32 ?_
      refine vX6_134 hZ dX6_cheat_33 (by first | exact hC | exact isC1 | exact isC7 | exact isC13) (t_X0_lasts isC1 (by show 0 ≤ w ∧ w < M 1 5; omega) (by omega) (by omega) hn hA) (fun a33 M33 r33 h33 => ?_)
      try simp only [Nat.reduceAdd] at h33
      obtain ⟨e33, h33⟩ := h33
      replace e33 := e33.symm
      subst e33
      rw [if_neg (by omega)] at h33
      subst h33
      refine f_istore_n (L' := [_, _, _, _]) hZ dX6_cheat_36 rfl rfl ?_
      refine f_iconst hZ dX6_cheat_37 ?_
      refine f_istore_n (L' := [_, _, _, _]) hZ dX6_cheat_38 rfl rfl ?_
      exact loop 10 0 (by omega) (by omega) (by assumption) (by omega) (fun i h1 h2 => by omega)
    · refine f_bipush hZ dX6_cheat_23 ?_
      exact f_retI hZ hR dX6_cheat_25 rfl (by omega) (by exact ⟨rfl, Or.inl ⟨by omega, rfl⟩⟩)

