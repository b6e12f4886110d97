def fillM (M : fM) (c : Nat) (k v : Int) : fM := fun q i => if q = c ∧ 0 ≤ i ∧ i < k then v else M q i
theorem fillM_0 {M : fM} {c : Nat} {v : Int} : fillM M c 0 v = M := by funext q i; unfold fillM; rw [if_neg (by omega)]
theorem fillM_step {M : fM} {c : Nat} {k v : Int} (h : 0 ≤ k) : up (fillM M c k v) c k v = fillM M c (k + 1) v := by
  funext q i
  unfold up fillM
  by_cases h1 : q = c ∧ i = k
  · rw [if_pos h1, if_pos (by omega)]
  · rw [if_neg h1]
    by_cases h2 : q = c ∧ 0 ≤ i ∧ i < k
    · rw [if_pos h2, if_pos (show q = c ∧ 0 ≤ i ∧ i < k + 1 by omega)]
    · rw [if_neg h2, if_neg (show ¬ (q = c ∧ 0 ≤ i ∧ i < k + 1) by omega)]
set_option maxRecDepth 20000 in
set_option maxHeartbeats 4000000 in
theorem t_fill {X : fX} {M : fM} {d : Nat} {c n : Nat} {v : Int} (hc : decide (c < nC) = true) (hy : lay c = (0, n, [])) (hv : rg v) : fC X d mJ7_fill_53178 [.ref (xa X c), .int (iv v)] M (QV fun M' => M' = fillM M c n v) := by
  have hN := lay_n (of_decide_eq_true hc) hy
  refine fC.of (L := [_, _, _, _]) (by decide +kernel) rfl (Nat.le_of_ble_eq_true rfl) (fun Z hZ hR => ?_)
  have loop : ∀ (m : Nat) (w : Int) , 0 ≤ w → w + m = n →  fG X mJ7_fill_53178 Z 5 [.ref (xa X c), .int (iv v), .int (iv w), .int (iv (n : Int))] [] (fillM M c w v) := by
    intro m
    induction m with
    | zero =>
      intro w  h0 hw 
      refine f_iload_n hZ dJ7_fill_53178_5 rfl ?_
      refine f_iload_n hZ dJ7_fill_53178_6 rfl ?_
      refine f_ige (tgt := 20) hZ dJ7_fill_53178_7 rfl (by omega) (by omega) (fun h7 => ?_) (fun h7 => ?_)
      · exact f_retV hZ hR dJ7_fill_53178_20 rfl (by have hwe : w = (n : Int) := (by omega); subst hwe; rfl)
      · exfalso; omega
    | succ m ih =>
      intro w  h0 hw 
      refine f_iload_n hZ dJ7_fill_53178_5 rfl ?_
      refine f_iload_n hZ dJ7_fill_53178_6 rfl ?_
      refine f_ige (tgt := 20) hZ dJ7_fill_53178_7 rfl (by omega) (by omega) (fun h7 => ?_) (fun h7 => ?_)
      · exfalso; omega
      · refine f_aload_n hZ dJ7_fill_53178_10 rfl ?_
        refine f_iload_n hZ dJ7_fill_53178_11 rfl ?_
        refine f_iload_n hZ dJ7_fill_53178_12 rfl ?_
        refine f_iastore hZ dJ7_fill_53178_13 hc hy (by omega) (by omega) (by omega) ?_
        refine f_iinc (L' := [_, _, _, _]) hZ dJ7_fill_53178_14 rfl rfl ?_
        refine f_goto (tgt := 5) hZ dJ7_fill_53178_17 rfl ?_
        have hh := ih (w + 1) (by omega) (by omega)
        rw [← fillM_step h0] at hh
        exact hh
  refine f_iconst hZ dJ7_fill_53178_0 ?_
  refine f_istore_n (L' := [_, _, _, _]) hZ dJ7_fill_53178_1 rfl rfl ?_
  refine f_aload_n hZ dJ7_fill_53178_2 rfl ?_
  refine f_alen hZ dJ7_fill_53178_3 hc hy ?_
  refine f_istore_n (L' := [_, _, _, _]) hZ dJ7_fill_53178_4 rfl rfl ?_
  have hh := loop n 0 (by omega) (by omega)
  rw [fillM_0] at hh
  exact hh

/-! Sheets -/
def WfS (M : fM) : Prop := ∀ s, 0 ≤ s → s < 4 → (-1 ≤ M 55 s ∧ M 55 s ≤ 2) ∧ (0 ≤ M 56 s ∧ M 56 s ≤ 40)
theorem rowL {s : Int} (h : 0 ≤ s ∧ s < 4) : lay (51 + s.toNat) = (0, 40, []) := by
  rcases (show s = 0 ∨ s = 1 ∨ s = 2 ∨ s = 3 by omega) with rfl | rfl | rfl | rfl <;> rfl
theorem rowT {s : Int} (h : 0 ≤ s ∧ s < 4) : decide (51 + s.toNat < nC) = true := by
  rcases (show s = 0 ∨ s = 1 ∨ s = 2 ∨ s = 3 by omega) with rfl | rfl | rfl | rfl <;> rfl
abbrev lackP (M : fM) (s : Int) : Prop := ¬ (0 ≤ s ∧ s < 4) ∨ M 55 s = -1
abbrev reachP (M : fM) (s i n : Int) : Prop := (0 ≤ s ∧ s < 4) ∧ M 55 s ≠ -1 ∧ 0 ≤ i ∧ 0 ≤ n ∧ i ≤ M 56 s ∧ n ≤ M 56 s - i
def cutZ (t v : Int) : Int := if t = 0 then byI v else if t = 1 then shI v else v
theorem cutZ_rg {t v : Int} (h : rg v) : rg (cutZ t v) := by
  unfold cutZ; split
  · exact rg_of _
  · split
    · exact rg_of _
    · exact h
set_option maxRecDepth 20000 in
set_option maxHeartbeats 4000000 in
theorem t_X3_has {X : fX} {M : fM} {d : Nat} {s : Int} (hs : rg s) : fC X d mX3_has [.ref (xa X 49), .int (iv s)] M (QI fun r M' => M' = M ∧ bz r (0 ≤ s ∧ s < 4)) := by
  refine fC.of (L := [_, _]) (by decide +kernel) rfl (Nat.le_of_ble_eq_true rfl) (fun Z hZ hR => ?_)
  refine f_iload_n hZ dX3_has_0 rfl ?_
  refine f_lt (tgt := 13) hZ dX3_has_1 rfl (by omega) (fun h1 => ?_) (fun h1 => ?_)
  · refine f_iconst hZ dX3_has_13 ?_
    exact f_retZ hZ hR dX3_has_14 rfl (by omega) (by exact ⟨rfl, by omega⟩)
  · refine f_iload_n hZ dX3_has_4 rfl ?_
    refine f_iconst hZ dX3_has_5 ?_
    refine f_ige (tgt := 13) hZ dX3_has_6 rfl (by omega) (by omega) (fun h6 => ?_) (fun h6 => ?_)
    · refine f_iconst hZ dX3_has_13 ?_
      exact f_retZ hZ hR dX3_has_14 rfl (by omega) (by exact ⟨rfl, by omega⟩)
    · refine f_iconst hZ dX3_has_9 ?_
      refine f_goto (tgt := 14) hZ dX3_has_10 rfl ?_
      exact f_retZ hZ hR dX3_has_14 rfl (by omega) (by exact ⟨rfl, by omega⟩)

set_option maxRecDepth 20000 in
set_option maxHeartbeats 4000000 in
theorem t_X3_lacks {X : fX} {M : fM} {d : Nat} {s : Int} (hs : rg s) : fC X (d + 1) mX3_lacks [.ref (xa X 49), .int (iv s)] M (QI fun r M' => M' = M ∧ bz r (lackP M s)) := by
  refine fC.of (L := [_, _]) (by decide +kernel) rfl (Nat.le_of_ble_eq_true rfl) (fun Z hZ hR => ?_)
  refine f_aload_n hZ dX3_lacks_0 rfl ?_
  refine f_iload_n hZ dX3_lacks_1 rfl ?_
  refine vX3_23 hZ dX3_lacks_2 (t_X3_has (by omega)) (fun a2 M2 r2 h2 => ?_)
  obtain ⟨e2, h2⟩ := h2
  replace e2 := e2.symm
  subst e2
  refine f_eq (tgt := 18) hZ dX3_lacks_5 rfl (by omega) (fun h5 => ?_) (fun h5 => ?_)
  · refine f_iconst hZ dX3_lacks_18 ?_
    refine f_goto (tgt := 23) hZ dX3_lacks_19 rfl ?_
    exact f_retZ hZ hR dX3_lacks_23 rfl (by omega) (by exact ⟨rfl, by omega⟩)
  · refine f_aload_n hZ dX3_lacks_8 rfl ?_
    refine gX3_16 hZ dX3_lacks_9 ?_
    refine f_iload_n hZ dX3_lacks_12 rfl ?_
    refine f_iaload hZ dX3_lacks_13 (by first | rfl | exact hC.t1 | exact hC.t2 | exact hC.t3 | exact hC.t4 | exact hC.t5) (by first | rfl | exact hC.l1 | exact hC.l2 | exact hC.l3 | exact hC.l4 | exact hC.l5) (by omega) (by omega) (fun r13 => ?_)
    refine f_iconst hZ dX3_lacks_14 ?_
    refine f_ine (tgt := 22) hZ dX3_lacks_15 rfl (by omega) (by omega) (fun h15 => ?_) (fun h15 => ?_)
    · refine f_iconst hZ dX3_lacks_22 ?_
      exact f_retZ hZ hR dX3_lacks_23 rfl (by omega) (by exact ⟨rfl, by omega⟩)
    · refine f_iconst hZ dX3_lacks_18 ?_
      refine f_goto (tgt := 23) hZ dX3_lacks_19 rfl ?_
      exact f_retZ hZ hR dX3_lacks_23 rfl (by omega) (by exact ⟨rfl, by omega⟩)

set_option maxRecDepth 20000 in
set_option maxHeartbeats 4000000 in
theorem t_X3_reaches {X : fX} {M : fM} {d : Nat} {s i n : Int} (hs : rg s) (hi : rg i) (hn : rg n) (hW : WfS M) : fC X (d + 2) mX3_reaches [.ref (xa X 49), .int (iv s), .int (iv i), .int (iv n)] M (QI fun r M' => M' = M ∧ bz r (reachP M s i n)) := by
  refine fC.of (L := [_, _, _, _]) (by decide +kernel) rfl (Nat.le_of_ble_eq_true rfl) (fun Z hZ hR => ?_)
  refine f_aload_n hZ dX3_reaches_0 rfl ?_
  refine f_iload_n hZ dX3_reaches_1 rfl ?_
  refine vX3_27 hZ dX3_reaches_2 (t_X3_lacks (by omega)) (fun a2 M2 r2 h2 => ?_)
  obtain ⟨e2, h2⟩ := h2
  replace e2 := e2.symm
  subst e2
  refine f_ne (tgt := 42) hZ dX3_reaches_5 rfl (by omega) (fun h5 => ?_) (fun h5 => ?_)
  · refine f_iconst hZ dX3_reaches_42 ?_
    exact f_retZ hZ hR dX3_reaches_43 rfl (by omega) (by exact ⟨rfl, by omega⟩)
  · refine f_iload_n hZ dX3_reaches_8 rfl ?_
    refine f_lt (tgt := 42) hZ dX3_reaches_9 rfl (by omega) (fun h9 => ?_) (fun h9 => ?_)
    · refine f_iconst hZ dX3_reaches_42 ?_
      exact f_retZ hZ hR dX3_reaches_43 rfl (by omega) (by exact ⟨rfl, by omega⟩)
    · refine f_iload_n hZ dX3_reaches_12 rfl ?_
      refine f_lt (tgt := 42) hZ dX3_reaches_13 rfl (by omega) (fun h13 => ?_) (fun h13 => ?_)
      · refine f_iconst hZ dX3_reaches_42 ?_
        exact f_retZ hZ hR dX3_reaches_43 rfl (by omega) (by exact ⟨rfl, by omega⟩)
      · have hq := hW s (by omega) (by omega)
        refine f_iload_n hZ dX3_reaches_16 rfl ?_
        refine f_aload_n hZ dX3_reaches_17 rfl ?_
        refine gX3_20 hZ dX3_reaches_18 ?_
        refine f_iload_n hZ dX3_reaches_21 rfl ?_
        refine f_iaload hZ dX3_reaches_22 (by first | rfl | exact hC.t1 | exact hC.t2 | exact hC.t3 | exact hC.t4 | exact hC.t5) (by first | rfl | exact hC.l1 | exact hC.l2 | exact hC.l3 | exact hC.l4 | exact hC.l5) (by omega) (by omega) (fun r22 => ?_)
        refine f_igt (tgt := 42) hZ dX3_reaches_23 rfl (by omega) (by omega) (fun h23 => ?_) (fun h23 => ?_)
        · refine f_iconst hZ dX3_reaches_42 ?_
          exact f_retZ hZ hR dX3_reaches_43 rfl (by omega) (by exact ⟨rfl, by omega⟩)
        · refine f_iload_n hZ dX3_reaches_26 rfl ?_
          refine f_aload_n hZ dX3_reaches_27 rfl ?_
          refine gX3_20 hZ dX3_reaches_28 ?_
          refine f_iload_n hZ dX3_reaches_31 rfl ?_
          refine f_iaload hZ dX3_reaches_32 (by first | rfl | exact hC.t1 | exact hC.t2 | exact hC.t3 | exact hC.t4 | exact hC.t5) (by first | rfl | exact hC.l1 | exact hC.l2 | exact hC.l3 | exact hC.l4 | exact hC.l5) (by omega) (by omega) (fun r32 => ?_)
          refine f_iload_n hZ dX3_reaches_33 rfl ?_
          refine f_isub hZ dX3_reaches_34 ?_
          refine f_igt (tgt := 42) hZ dX3_reaches_35 rfl (by omega) (by omega) (fun h35 => ?_) (fun h35 => ?_)
          · refine f_iconst hZ dX3_reaches_42 ?_
            exact f_retZ hZ hR dX3_reaches_43 rfl (by omega) (by exact ⟨rfl, by omega⟩)
          · refine f_iconst hZ dX3_reaches_38 ?_
            refine f_goto (tgt := 43) hZ dX3_reaches_39 rfl ?_
            exact f_retZ hZ hR dX3_reaches_43 rfl (by omega) (by exact ⟨rfl, by omega⟩)

set_option maxRecDepth 20000 in
set_option maxHeartbeats 4000000 in
theorem t_X3_item {X : fX} {M : fM} {d : Nat} {s i : Int} (hs : rg s) (hi : rg i) (hW : WfS M) : fC X (d + 3) mX3_item [.ref (xa X 49), .int (iv s), .int (iv i)] M (QI fun r M' => M' = M ∧ ((reachP M s i 1 ∧ r = M (51 + s.toNat) i) ∨ (¬ reachP M s i 1 ∧ r = 0))) := by
  refine fC.of (L := [_, _, _]) (by decide +kernel) rfl (Nat.le_of_ble_eq_true rfl) (fun Z hZ hR => ?_)
  refine f_aload_n hZ dX3_item_0 rfl ?_
  refine f_iload_n hZ dX3_item_1 rfl ?_
  refine f_iload_n hZ dX3_item_2 rfl ?_
  refine f_iconst hZ dX3_item_3 ?_
  refine vX3_45 hZ dX3_item_4 (t_X3_reaches (by omega) (by omega) (by omega) hW) (fun a4 M4 r4 h4 => ?_)
  obtain ⟨e4, h4⟩ := h4
  replace e4 := e4.symm
  subst e4
  refine f_eq (tgt := 21) hZ dX3_item_7 rfl (by omega) (fun h7 => ?_) (fun h7 => ?_)
  · refine f_iconst hZ dX3_item_21 ?_
    exact f_retI hZ hR dX3_item_22 rfl (by omega) (by refine ⟨rfl, ?_⟩; first | exact Or.inl ⟨by omega, rfl⟩ | exact Or.inr ⟨by omega, rfl⟩)
  · have hq := hW s (by omega) (by omega)
    refine f_aload_n hZ dX3_item_10 rfl ?_
    refine gX3_11 hZ dX3_item_11 ?_
    refine f_iload_n hZ dX3_item_14 rfl ?_
    refine f_aaload hZ dX3_item_15 rfl rfl (by omega) (by omega) ?_
    refine f_iload_n hZ dX3_item_16 rfl ?_
    refine f_iaload hZ dX3_item_17 (by first | rfl | exact rowT (by omega)) (by first | rfl | exact rowL (by omega)) (by omega) (by omega) (fun r17 => ?_)
    refine f_goto (tgt := 22) hZ dX3_item_18 rfl ?_
    exact f_retI hZ hR dX3_item_22 rfl (by omega) (by refine ⟨rfl, ?_⟩; first | exact Or.inl ⟨by omega, rfl⟩ | exact Or.inr ⟨by omega, rfl⟩)

set_option maxRecDepth 20000 in
set_option maxHeartbeats 4000000 in
theorem t_X3_put {X : fX} {M : fM} {d : Nat} {s i v : Int} (hs : rg s) (hi : rg i) (hv : rg v) (hW : WfS M) : fC X (d + 3) mX3_put [.ref (xa X 49), .int (iv s), .int (iv i), .int (iv v)] M (QV fun M' => (reachP M s i 1 ∧ M' = up M (51 + s.toNat) i (cutZ (M 55 s) v)) ∨ (¬ reachP M s i 1 ∧ M' = M)) := by
  refine fC.of (L := [_, _, _, _]) (by decide +kernel) rfl (Nat.le_of_ble_eq_true rfl) (fun Z hZ hR => ?_)
  refine f_aload_n hZ dX3_put_0 rfl ?_
  refine f_iload_n hZ dX3_put_1 rfl ?_
  refine f_iload_n hZ dX3_put_2 rfl ?_
  refine f_iconst hZ dX3_put_3 ?_
  refine vX3_45 hZ dX3_put_4 (t_X3_reaches (by omega) (by omega) (by omega) hW) (fun a4 M4 r4 h4 => ?_)
  obtain ⟨e4, h4⟩ := h4
  replace e4 := e4.symm
  subst e4
  refine f_eq (tgt := 48) hZ dX3_put_7 rfl (by first | omega | exact rg_of _) (fun h7 => ?_) (fun h7 => ?_)
  · exact f_retV hZ hR dX3_put_48 rfl (by first | exact Or.inr ⟨by omega, rfl⟩ | (refine Or.inl ⟨by omega, ?_⟩; unfold cutZ; first | rw [if_pos (by omega)] | (rw [if_neg (by omega)]; first | rw [if_pos (by omega)] | rw [if_neg (by omega)])))
  · have hq := hW s (by omega) (by omega)
    refine f_aload_n hZ dX3_put_10 rfl ?_
    refine gX3_11 hZ dX3_put_11 ?_
    refine f_iload_n hZ dX3_put_14 rfl ?_
    refine f_aaload hZ dX3_put_15 rfl rfl (by first | omega | exact rg_of _) (by first | omega | exact rg_of _) ?_
    refine f_iload_n hZ dX3_put_16 rfl ?_
    refine f_aload_n hZ dX3_put_17 rfl ?_
    refine gX3_16 hZ dX3_put_18 ?_
    refine f_iload_n hZ dX3_put_21 rfl ?_
    refine f_iaload hZ dX3_put_22 (by first | rfl | exact rowT (by omega)) (by first | rfl | exact rowL (by omega)) (by first | omega | exact rg_of _) (by first | omega | exact rg_of _) (fun r22 => ?_)
    refine f_ne (tgt := 31) hZ dX3_put_23 rfl (by first | omega | exact rg_of _) (fun h23 => ?_) (fun h23 => ?_)
    · refine f_aload_n hZ dX3_put_31 rfl ?_
      refine gX3_16 hZ dX3_put_32 ?_
      refine f_iload_n hZ dX3_put_35 rfl ?_
      refine f_iaload hZ dX3_put_36 (by first | rfl | exact rowT (by omega)) (by first | rfl | exact rowL (by omega)) (by first | omega | exact rg_of _) (by first | omega | exact rg_of _) (fun r36 => ?_)
      refine f_iconst hZ dX3_put_37 ?_
      refine f_ine (tgt := 46) hZ dX3_put_38 rfl (by first | omega | exact rg_of _) (by first | omega | exact rg_of _) (fun h38 => ?_) (fun h38 => ?_)
      · refine f_iload_n hZ dX3_put_46 rfl ?_
        refine f_iastore hZ dX3_put_47 (by first | rfl | exact rowT (by omega)) (by first | rfl | exact rowL (by omega)) (by first | omega | exact rg_of _) (by first | omega | exact rg_of _) (by first | omega | exact rg_of _) ?_
        exact f_retV hZ hR dX3_put_48 rfl (by first | exact Or.inr ⟨by omega, rfl⟩ | (refine Or.inl ⟨by omega, ?_⟩; unfold cutZ; first | rw [if_pos (by omega)] | (rw [if_neg (by omega)]; first | rw [if_pos (by omega)] | rw [if_neg (by omega)])))
      · refine f_iload_n hZ dX3_put_41 rfl ?_
        refine f_i2s hZ dX3_put_42 ?_
        refine f_goto (tgt := 47) hZ dX3_put_43 rfl ?_
        refine f_iastore hZ dX3_put_47 (by first | rfl | exact rowT (by omega)) (by first | rfl | exact rowL (by omega)) (by first | omega | exact rg_of _) (by first | omega | exact rg_of _) (by first | omega | exact rg_of _) ?_
        exact f_retV hZ hR dX3_put_48 rfl (by first | exact Or.inr ⟨by omega, rfl⟩ | (refine Or.inl ⟨by omega, ?_⟩; unfold cutZ; first | rw [if_pos (by omega)] | (rw [if_neg (by omega)]; first | rw [if_pos (by omega)] | rw [if_neg (by omega)])))
    · refine f_iload_n hZ dX3_put_26 rfl ?_
      refine f_i2b hZ dX3_put_27 ?_
      refine f_goto (tgt := 47) hZ dX3_put_28 rfl ?_
      refine f_iastore hZ dX3_put_47 (by first | rfl | exact rowT (by omega)) (by first | rfl | exact rowL (by omega)) (by first | omega | exact rg_of _) (by first | omega | exact rg_of _) (by first | omega | exact rg_of _) ?_
      exact f_retV hZ hR dX3_put_48 rfl (by first | exact Or.inr ⟨by omega, rfl⟩ | (refine Or.inl ⟨by omega, ?_⟩; unfold cutZ; first | rw [if_pos (by omega)] | (rw [if_neg (by omega)]; first | rw [if_pos (by omega)] | rw [if_neg (by omega)])))

def layM (M : fM) (s t n : Int) : fM := fillM (up (up M 55 s t) 56 s (if t = -1 then 0 else max 0 (min 40 n))) (51 + s.toNat) 40 0
set_option maxRecDepth 20000 in
set_option maxHeartbeats 4000000 in
theorem t_X3_lay {X : fX} {M : fM} {d : Nat} {s t n : Int} (hs : 0 ≤ s ∧ s < 4) (ht : -1 ≤ t ∧ t ≤ 2) (hn : rg n) : fC X (d + 1) mX3_lay [.ref (xa X 49), .int (iv s), .int (iv t), .int (iv n)] M (QV fun M' => M' = layM M s t n) := by
  refine fC.of (L := [_, _, _, _]) (by decide +kernel) rfl (Nat.le_of_ble_eq_true rfl) (fun Z hZ hR => ?_)
  rcases (show s = 0 ∨ s = 1 ∨ s = 2 ∨ s = 3 by omega) with rfl | rfl | rfl | rfl
  · refine f_aload_n hZ dX3_lay_0 rfl ?_
    refine f_iload_n hZ dX3_lay_1 rfl ?_
    refine vX3_23 hZ dX3_lay_2 (t_X3_has (by omega)) (fun a2 M2 r2 h2 => ?_)
    obtain ⟨e2, h2⟩ := h2
    replace e2 := e2.symm
    subst e2
    refine f_eq (tgt := 50) hZ dX3_lay_5 rfl (by omega) (fun h5 => ?_) (fun h5 => ?_)
    · exfalso; omega
    · refine f_aload_n hZ dX3_lay_8 rfl ?_
      refine gX3_16 hZ dX3_lay_9 ?_
      refine f_iload_n hZ dX3_lay_12 rfl ?_
      refine f_iload_n hZ dX3_lay_13 rfl ?_
      refine f_iastore hZ dX3_lay_14 (by first | rfl | exact hC.t1 | exact hC.t2 | exact hC.t3 | exact hC.t4 | exact hC.t5) (by first | rfl | exact hC.l1 | exact hC.l2 | exact hC.l3 | exact hC.l4 | exact hC.l5) (by omega) (by omega) (by omega) ?_
      refine f_aload_n hZ dX3_lay_15 rfl ?_
      refine gX3_20 hZ dX3_lay_16 ?_
      refine f_iload_n hZ dX3_lay_19 rfl ?_
      refine f_iload_n hZ dX3_lay_20 rfl ?_
      refine f_iconst hZ dX3_lay_21 ?_
      refine f_ine (tgt := 29) hZ dX3_lay_22 rfl (by omega) (by omega) (fun h22 => ?_) (fun h22 => ?_)
      · refine f_iconst hZ dX3_lay_29 ?_
        refine f_bipush hZ dX3_lay_30 ?_
        refine f_iload_n hZ dX3_lay_32 rfl ?_
        refine f_min hZ dX3_lay_33 wk_X3_30 (by omega) (by omega) (Nat.le_of_ble_eq_true rfl) ?_
        refine f_max hZ dX3_lay_36 wk_X3_36 (by omega) (by omega) (Nat.le_of_ble_eq_true rfl) ?_
        refine f_iastore hZ dX3_lay_39 (by first | rfl | exact hC.t1 | exact hC.t2 | exact hC.t3 | exact hC.t4 | exact hC.t5) (by first | rfl | exact hC.l1 | exact hC.l2 | exact hC.l3 | exact hC.l4 | exact hC.l5) (by omega) (by omega) (by omega) ?_
        refine f_aload_n hZ dX3_lay_40 rfl ?_
        refine gX3_11 hZ dX3_lay_41 ?_
        refine f_iload_n hZ dX3_lay_44 rfl ?_
        refine f_aaload hZ dX3_lay_45 rfl rfl (by omega) (by omega) ?_
        refine f_iconst hZ dX3_lay_46 ?_
        refine sX3_39 hZ dX3_lay_47 (t_fill rfl rfl (by omega)) (fun M47 h47 => ?_)
        subst h47
        exact f_retV hZ hR dX3_lay_50 rfl (by unfold layM; first | (rw [if_pos (by omega)]; done) | (rw [if_neg (by omega)]; done) | (rw [if_pos (by omega)]; rfl) | (rw [if_neg (by omega)]; rfl))
      · refine f_iconst hZ dX3_lay_25 ?_
        refine f_goto (tgt := 39) hZ dX3_lay_26 rfl ?_
        refine f_iastore hZ dX3_lay_39 (by first | rfl | exact hC.t1 | exact hC.t2 | exact hC.t3 | exact hC.t4 | exact hC.t5) (by first | rfl | exact hC.l1 | exact hC.l2 | exact hC.l3 | exact hC.l4 | exact hC.l5) (by omega) (by omega) (by omega) ?_
        refine f_aload_n hZ dX3_lay_40 rfl ?_
        refine gX3_11 hZ dX3_lay_41 ?_
        refine f_iload_n hZ dX3_lay_44 rfl ?_
        refine f_aaload hZ dX3_lay_45 rfl rfl (by omega) (by omega) ?_
        refine f_iconst hZ dX3_lay_46 ?_
        refine sX3_39 hZ dX3_lay_47 (t_fill rfl rfl (by omega)) (fun M47 h47 => ?_)
        subst h47
        exact f_retV hZ hR dX3_lay_50 rfl (by unfold layM; first | (rw [if_pos (by omega)]; done) | (rw [if_neg (by omega)]; done) | (rw [if_pos (by omega)]; rfl) | (rw [if_neg (by omega)]; rfl))
  · refine f_aload_n hZ dX3_lay_0 rfl ?_
    refine f_iload_n hZ dX3_lay_1 rfl ?_
    refine vX3_23 hZ dX3_lay_2 (t_X3_has (by omega)) (fun a2 M2 r2 h2 => ?_)
    obtain ⟨e2, h2⟩ := h2
    replace e2 := e2.symm
    subst e2
    refine f_eq (tgt := 50) hZ dX3_lay_5 rfl (by omega) (fun h5 => ?_) (fun h5 => ?_)
    · exfalso; omega
    · refine f_aload_n hZ dX3_lay_8 rfl ?_
      refine gX3_16 hZ dX3_lay_9 ?_
      refine f_iload_n hZ dX3_lay_12 rfl ?_
      refine f_iload_n hZ dX3_lay_13 rfl ?_
      refine f_iastore hZ dX3_lay_14 (by first | rfl | exact hC.t1 | exact hC.t2 | exact hC.t3 | exact hC.t4 | exact hC.t5) (by first | rfl | exact hC.l1 | exact hC.l2 | exact hC.l3 | exact hC.l4 | exact hC.l5) (by omega) (by omega) (by omega) ?_
      refine f_aload_n hZ dX3_lay_15 rfl ?_
      refine gX3_20 hZ dX3_lay_16 ?_
      refine f_iload_n hZ dX3_lay_19 rfl ?_
      refine f_iload_n hZ dX3_lay_20 rfl ?_
      refine f_iconst hZ dX3_lay_21 ?_
      refine f_ine (tgt := 29) hZ dX3_lay_22 rfl (by omega) (by omega) (fun h22 => ?_) (fun h22 => ?_)
      · refine f_iconst hZ dX3_lay_29 ?_
        refine f_bipush hZ dX3_lay_30 ?_
        refine f_iload_n hZ dX3_lay_32 rfl ?_
        refine f_min hZ dX3_lay_33 wk_X3_30 (by omega) (by omega) (Nat.le_of_ble_eq_true rfl) ?_
        refine f_max hZ dX3_lay_36 wk_X3_36 (by omega) (by omega) (Nat.le_of_ble_eq_true rfl) ?_
        refine f_iastore hZ dX3_lay_39 (by first | rfl | exact hC.t1 | exact hC.t2 | exact hC.t3 | exact hC.t4 | exact hC.t5) (by first | rfl | exact hC.l1 | exact hC.l2 | exact hC.l3 | exact hC.l4 | exact hC.l5) (by omega) (by omega) (by omega) ?_
        refine f_aload_n hZ dX3_lay_40 rfl ?_
        refine gX3_11 hZ dX3_lay_41 ?_
        refine f_iload_n hZ dX3_lay_44 rfl ?_
        refine f_aaload hZ dX3_lay_45 rfl rfl (by omega) (by omega) ?_
        refine f_iconst hZ dX3_lay_46 ?_
        refine sX3_39 hZ dX3_lay_47 (t_fill rfl rfl (by omega)) (fun M47 h47 => ?_)
        subst h47
        exact f_retV hZ hR dX3_lay_50 rfl (by unfold layM; first | (rw [if_pos (by omega)]; done) | (rw [if_neg (by omega)]; done) | (rw [if_pos (by omega)]; rfl) | (rw [if_neg (by omega)]; rfl))
      · refine f_iconst hZ dX3_lay_25 ?_
        refine f_goto (tgt := 39) hZ dX3_lay_26 rfl ?_
        refine f_iastore hZ dX3_lay_39 (by first | rfl | exact hC.t1 | exact hC.t2 | exact hC.t3 | exact hC.t4 | exact hC.t5) (by first | rfl | exact hC.l1 | exact hC.l2 | exact hC.l3 | exact hC.l4 | exact hC.l5) (by omega) (by omega) (by omega) ?_
        refine f_aload_n hZ dX3_lay_40 rfl ?_
        refine gX3_11 hZ dX3_lay_41 ?_
        refine f_iload_n hZ dX3_lay_44 rfl ?_
        refine f_aaload hZ dX3_lay_45 rfl rfl (by omega) (by omega) ?_
        refine f_iconst hZ dX3_lay_46 ?_
        refine sX3_39 hZ dX3_lay_47 (t_fill rfl rfl (by omega)) (fun M47 h47 => ?_)
        subst h47
        exact f_retV hZ hR dX3_lay_50 rfl (by unfold layM; first | (rw [if_pos (by omega)]; done) | (rw [if_neg (by omega)]; done) | (rw [if_pos (by omega)]; rfl) | (rw [if_neg (by omega)]; rfl))
  · refine f_aload_n hZ dX3_lay_0 rfl ?_
    refine f_iload_n hZ dX3_lay_1 rfl ?_
    refine vX3_23 hZ dX3_lay_2 (t_X3_has (by omega)) (fun a2 M2 r2 h2 => ?_)
    obtain ⟨e2, h2⟩ := h2
    replace e2 := e2.symm
    subst e2
    refine f_eq (tgt := 50) hZ dX3_lay_5 rfl (by omega) (fun h5 => ?_) (fun h5 => ?_)
    · exfalso; omega
    · refine f_aload_n hZ dX3_lay_8 rfl ?_
      refine gX3_16 hZ dX3_lay_9 ?_
      refine f_iload_n hZ dX3_lay_12 rfl ?_
      refine f_iload_n hZ dX3_lay_13 rfl ?_
      refine f_iastore hZ dX3_lay_14 (by first | rfl | exact hC.t1 | exact hC.t2 | exact hC.t3 | exact hC.t4 | exact hC.t5) (by first | rfl | exact hC.l1 | exact hC.l2 | exact hC.l3 | exact hC.l4 | exact hC.l5) (by omega) (by omega) (by omega) ?_
      refine f_aload_n hZ dX3_lay_15 rfl ?_
      refine gX3_20 hZ dX3_lay_16 ?_
      refine f_iload_n hZ dX3_lay_19 rfl ?_
      refine f_iload_n hZ dX3_lay_20 rfl ?_
      refine f_iconst hZ dX3_lay_21 ?_
      refine f_ine (tgt := 29) hZ dX3_lay_22 rfl (by omega) (by omega) (fun h22 => ?_) (fun h22 => ?_)
      · refine f_iconst hZ dX3_lay_29 ?_
        refine f_bipush hZ dX3_lay_30 ?_
        refine f_iload_n hZ dX3_lay_32 rfl ?_
        refine f_min hZ dX3_lay_33 wk_X3_30 (by omega) (by omega) (Nat.le_of_ble_eq_true rfl) ?_
        refine f_max hZ dX3_lay_36 wk_X3_36 (by omega) (by omega) (Nat.le_of_ble_eq_true rfl) ?_
        refine f_iastore hZ dX3_lay_39 (by first | rfl | exact hC.t1 | exact hC.t2 | exact hC.t3 | exact hC.t4 | exact hC.t5) (by first | rfl | exact hC.l1 | exact hC.l2 | exact hC.l3 | exact hC.l4 | exact hC.l5) (by omega) (by omega) (by omega) ?_
        refine f_aload_n hZ dX3_lay_40 rfl ?_
        refine gX3_11 hZ dX3_lay_41 ?_
        refine f_iload_n hZ dX3_lay_44 rfl ?_
        refine f_aaload hZ dX3_lay_45 rfl rfl (by omega) (by omega) ?_
        refine f_iconst hZ dX3_lay_46 ?_
        refine sX3_39 hZ dX3_lay_47 (t_fill rfl rfl (by omega)) (fun M47 h47 => ?_)
        subst h47
        exact f_retV hZ hR dX3_lay_50 rfl (by unfold layM; first | (rw [if_pos (by omega)]; done) | (rw [if_neg (by omega)]; done) | (rw [if_pos (by omega)]; rfl) | (rw [if_neg (by omega)]; rfl))
      · refine f_iconst hZ dX3_lay_25 ?_
        refine f_goto (tgt := 39) hZ dX3_lay_26 rfl ?_
        refine f_iastore hZ dX3_lay_39 (by first | rfl | exact hC.t1 | exact hC.t2 | exact hC.t3 | exact hC.t4 | exact hC.t5) (by first | rfl | exact hC.l1 | exact hC.l2 | exact hC.l3 | exact hC.l4 | exact hC.l5) (by omega) (by omega) (by omega) ?_
        refine f_aload_n hZ dX3_lay_40 rfl ?_
        refine gX3_11 hZ dX3_lay_41 ?_
        refine f_iload_n hZ dX3_lay_44 rfl ?_
        refine f_aaload hZ dX3_lay_45 rfl rfl (by omega) (by omega) ?_
        refine f_iconst hZ dX3_lay_46 ?_
        refine sX3_39 hZ dX3_lay_47 (t_fill rfl rfl (by omega)) (fun M47 h47 => ?_)
        subst h47
        exact f_retV hZ hR dX3_lay_50 rfl (by unfold layM; first | (rw [if_pos (by omega)]; done) | (rw [if_neg (by omega)]; done) | (rw [if_pos (by omega)]; rfl) | (rw [if_neg (by omega)]; rfl))
  · refine f_aload_n hZ dX3_lay_0 rfl ?_
    refine f_iload_n hZ dX3_lay_1 rfl ?_
    refine vX3_23 hZ dX3_lay_2 (t_X3_has (by omega)) (fun a2 M2 r2 h2 => ?_)
    obtain ⟨e2, h2⟩ := h2
    replace e2 := e2.symm
    subst e2
    refine f_eq (tgt := 50) hZ dX3_lay_5 rfl (by omega) (fun h5 => ?_) (fun h5 => ?_)
    · exfalso; omega
    · refine f_aload_n hZ dX3_lay_8 rfl ?_
      refine gX3_16 hZ dX3_lay_9 ?_
      refine f_iload_n hZ dX3_lay_12 rfl ?_
      refine f_iload_n hZ dX3_lay_13 rfl ?_
      refine f_iastore hZ dX3_lay_14 (by first | rfl | exact hC.t1 | exact hC.t2 | exact hC.t3 | exact hC.t4 | exact hC.t5) (by first | rfl | exact hC.l1 | exact hC.l2 | exact hC.l3 | exact hC.l4 | exact hC.l5) (by omega) (by omega) (by omega) ?_
      refine f_aload_n hZ dX3_lay_15 rfl ?_
      refine gX3_20 hZ dX3_lay_16 ?_
      refine f_iload_n hZ dX3_lay_19 rfl ?_
      refine f_iload_n hZ dX3_lay_20 rfl ?_
      refine f_iconst hZ dX3_lay_21 ?_
      refine f_ine (tgt := 29) hZ dX3_lay_22 rfl (by omega) (by omega) (fun h22 => ?_) (fun h22 => ?_)
      · refine f_iconst hZ dX3_lay_29 ?_
        refine f_bipush hZ dX3_lay_30 ?_
        refine f_iload_n hZ dX3_lay_32 rfl ?_
        refine f_min hZ dX3_lay_33 wk_X3_30 (by omega) (by omega) (Nat.le_of_ble_eq_true rfl) ?_
        refine f_max hZ dX3_lay_36 wk_X3_36 (by omega) (by omega) (Nat.le_of_ble_eq_true rfl) ?_
        refine f_iastore hZ dX3_lay_39 (by first | rfl | exact hC.t1 | exact hC.t2 | exact hC.t3 | exact hC.t4 | exact hC.t5) (by first | rfl | exact hC.l1 | exact hC.l2 | exact hC.l3 | exact hC.l4 | exact hC.l5) (by omega) (by omega) (by omega) ?_
        refine f_aload_n hZ dX3_lay_40 rfl ?_
        refine gX3_11 hZ dX3_lay_41 ?_
        refine f_iload_n hZ dX3_lay_44 rfl ?_
        refine f_aaload hZ dX3_lay_45 rfl rfl (by omega) (by omega) ?_
        refine f_iconst hZ dX3_lay_46 ?_
        refine sX3_39 hZ dX3_lay_47 (t_fill rfl rfl (by omega)) (fun M47 h47 => ?_)
        subst h47
        exact f_retV hZ hR dX3_lay_50 rfl (by unfold layM; first | (rw [if_pos (by omega)]; done) | (rw [if_neg (by omega)]; done) | (rw [if_pos (by omega)]; rfl) | (rw [if_neg (by omega)]; rfl))
      · refine f_iconst hZ dX3_lay_25 ?_
        refine f_goto (tgt := 39) hZ dX3_lay_26 rfl ?_
        refine f_iastore hZ dX3_lay_39 (by first | rfl | exact hC.t1 | exact hC.t2 | exact hC.t3 | exact hC.t4 | exact hC.t5) (by first | rfl | exact hC.l1 | exact hC.l2 | exact hC.l3 | exact hC.l4 | exact hC.l5) (by omega) (by omega) (by omega) ?_
        refine f_aload_n hZ dX3_lay_40 rfl ?_
        refine gX3_11 hZ dX3_lay_41 ?_
        refine f_iload_n hZ dX3_lay_44 rfl ?_
        refine f_aaload hZ dX3_lay_45 rfl rfl (by omega) (by omega) ?_
        refine f_iconst hZ dX3_lay_46 ?_
        refine sX3_39 hZ dX3_lay_47 (t_fill rfl rfl (by omega)) (fun M47 h47 => ?_)
        subst h47
        exact f_retV hZ hR dX3_lay_50 rfl (by unfold layM; first | (rw [if_pos (by omega)]; done) | (rw [if_neg (by omega)]; done) | (rw [if_pos (by omega)]; rfl) | (rw [if_neg (by omega)]; rfl))

/-! Telling.forget, Texts.append, the class's own small ones -/
abbrev fgt (M : fM) : fM := up M 39 11 (-1)
set_option maxRecDepth 20000 in
set_option maxHeartbeats 4000000 in
theorem t_X4_forget {X : fX} {M : fM} {d : Nat} : fC X d mX4_forget [.ref (xa X 39)] M (QV fun M' => M' = fgt M) := by
  refine fC.of (L := [_]) (by decide +kernel) rfl (Nat.le_of_ble_eq_true rfl) (fun Z hZ hR => ?_)
  refine f_aload_n hZ dX4_forget_0 rfl ?_
  refine f_iconst hZ dX4_forget_1 ?_
  refine pX4_39 hZ dX4_forget_2 (by omega) ?_
  exact f_retV hZ hR dX4_forget_5 rfl (by rfl)

set_option maxRecDepth 20000 in
set_option maxHeartbeats 4000000 in
theorem t_X5_append {X : fX} {M : fM} {d : Nat} {b : Int} (hb : rg b) (ht : 0 ≤ M 19 6 ∧ M 19 6 ≤ 160) : fC X d mX5_append [.ref (xa X 19), .int (iv b)] M (QI fun r M' => (M 19 6 = 160 ∧ r = -4 ∧ M' = M) ∨ (M 19 6 < 160 ∧ r = M 19 6 + 1 ∧ M' = up (up M 20 (M 19 6) b) 19 6 (M 19 6 + 1))) := by
  refine fC.of (L := [_, _]) (by decide +kernel) rfl (Nat.le_of_ble_eq_true rfl) (fun Z hZ hR => ?_)
  refine f_aload_n hZ dX5_append_0 rfl ?_
  refine gX5_40 hZ dX5_append_1 (fun r1 => ?_)
  refine f_sipush hZ dX5_append_4 ?_
  refine f_ilt (tgt := 13) hZ dX5_append_7 rfl (by omega) (by omega) (fun h7 => ?_) (fun h7 => ?_)
  · refine f_aload_n hZ dX5_append_13 rfl ?_
    refine gX5_9 hZ dX5_append_14 ?_
    refine f_aload_n hZ dX5_append_17 rfl ?_
    refine gX5_40 hZ dX5_append_18 (fun r18 => ?_)
    refine f_iload_n hZ dX5_append_21 rfl ?_
    refine f_iastore hZ dX5_append_22 (by first | rfl | exact hC.t1 | exact hC.t2 | exact hC.t3 | exact hC.t4 | exact hC.t5) (by first | rfl | exact hC.l1 | exact hC.l2 | exact hC.l3 | exact hC.l4 | exact hC.l5) (by omega) (by omega) (by omega) ?_
    refine f_aload_n hZ dX5_append_23 rfl ?_
    refine f_dup hZ dX5_append_24 rfl ?_
    refine gX5_40 hZ dX5_append_25 (fun r25 => ?_)
    try simp only [up_app, Nat.reduceEqDiff, Nat.reduceEqDiff, Int.reduceEq, and_true, true_and, and_false, false_and, if_true, if_false, reduceIte] at r25 ⊢
    refine f_iconst hZ dX5_append_28 ?_
    refine f_iadd hZ dX5_append_29 ?_
    refine pX5_40 hZ dX5_append_30 (by omega) ?_
    refine f_aload_n hZ dX5_append_33 rfl ?_
    refine gX5_40 hZ dX5_append_34 (fun r34 => ?_)
    try simp only [up_app, Nat.reduceEqDiff, Nat.reduceEqDiff, Int.reduceEq, and_true, true_and, and_false, false_and, if_true, if_false, reduceIte] at r34 ⊢
    exact f_retI hZ hR dX5_append_37 rfl (by omega) (by first | exact Or.inl ⟨by omega, rfl, rfl⟩ | exact Or.inr ⟨by omega, rfl, rfl⟩)
  · refine f_bipush hZ dX5_append_10 ?_
    exact f_retI hZ hR dX5_append_12 rfl (by omega) (by first | exact Or.inl ⟨by omega, rfl, rfl⟩ | exact Or.inr ⟨by omega, rfl, rfl⟩)

set_option maxRecDepth 20000 in
set_option maxHeartbeats 4000000 in
theorem t_X6_within {X : fX} {M : fM} {d : Nat} {v a b : Int} (hv : rg v) (ha : rg a) (hb : rg b) : fC X d mX6_within [.int (iv v), .int (iv a), .int (iv b)] M (QI fun r M' => M' = M ∧ bz r (a ≤ v ∧ v ≤ b)) := by
  refine fC.of (L := [_, _, _]) (by decide +kernel) rfl (Nat.le_of_ble_eq_true rfl) (fun Z hZ hR => ?_)
  refine f_iload_n hZ dX6_within_0 rfl ?_
  refine f_iload_n hZ dX6_within_1 rfl ?_
  refine f_ilt (tgt := 14) hZ dX6_within_2 rfl (by omega) (by omega) (fun h2 => ?_) (fun h2 => ?_)
  · refine f_iconst hZ dX6_within_14 ?_
    exact f_retZ hZ hR dX6_within_15 rfl (by omega) (by exact ⟨rfl, by omega⟩)
  · refine f_iload_n hZ dX6_within_5 rfl ?_
    refine f_iload_n hZ dX6_within_6 rfl ?_
    refine f_igt (tgt := 14) hZ dX6_within_7 rfl (by omega) (by omega) (fun h7 => ?_) (fun h7 => ?_)
    · refine f_iconst hZ dX6_within_14 ?_
      exact f_retZ hZ hR dX6_within_15 rfl (by omega) (by exact ⟨rfl, by omega⟩)
    · refine f_iconst hZ dX6_within_10 ?_
      refine f_goto (tgt := 15) hZ dX6_within_11 rfl ?_
      exact f_retZ hZ hR dX6_within_15 rfl (by omega) (by exact ⟨rfl, by omega⟩)

def mostZ (q : Int) : Int := if q = 0 then 99 else if q = 1 then 2 else if q = 2 then 999 else if q = 3 then 9 else if q = 4 then 9 else 9999
set_option maxRecDepth 20000 in
set_option maxHeartbeats 4000000 in
theorem t_X6_mostOf {X : fX} {M : fM} {d : Nat} {q : Int} (hq : 0 ≤ q ∧ q ≤ 5) : fC X d mX6_mostOf [.int (iv q)] M (QI fun r M' => M' = M ∧ r = mostZ q) := by
  refine fC.of (L := [_]) (by decide +kernel) rfl (Nat.le_of_ble_eq_true rfl) (fun Z hZ hR => ?_)
  rcases (show q = 0 ∨ q = 1 ∨ q = 2 ∨ q = 3 ∨ q = 4 ∨ q = 5 by omega) with rfl | rfl | rfl | rfl | rfl | rfl
  · refine f_iload_n hZ dX6_mostOf_0 rfl ?_
    refine f_tswIn (tgt := 36) hZ (0) dX6_mostOf_1 (by first | rfl | omega) (by omega) (by omega) (by omega) rfl rfl ?_
    refine f_bipush hZ dX6_mostOf_36 ?_
    exact f_retI hZ hR dX6_mostOf_38 rfl (by omega) (by exact ⟨rfl, rfl⟩)
  · refine f_iload_n hZ dX6_mostOf_0 rfl ?_
    refine f_tswIn (tgt := 39) hZ (1) dX6_mostOf_1 (by first | rfl | omega) (by omega) (by omega) (by omega) rfl rfl ?_
    refine f_iconst hZ dX6_mostOf_39 ?_
    exact f_retI hZ hR dX6_mostOf_40 rfl (by omega) (by exact ⟨rfl, rfl⟩)
  · refine f_iload_n hZ dX6_mostOf_0 rfl ?_
    refine f_tswIn (tgt := 41) hZ (2) dX6_mostOf_1 (by first | rfl | omega) (by omega) (by omega) (by omega) rfl rfl ?_
    refine f_sipush hZ dX6_mostOf_41 ?_
    exact f_retI hZ hR dX6_mostOf_44 rfl (by omega) (by exact ⟨rfl, rfl⟩)
  · refine f_iload_n hZ dX6_mostOf_0 rfl ?_
    refine f_tswIn (tgt := 45) hZ (3) dX6_mostOf_1 (by first | rfl | omega) (by omega) (by omega) (by omega) rfl rfl ?_
    refine f_bipush hZ dX6_mostOf_45 ?_
    exact f_retI hZ hR dX6_mostOf_47 rfl (by omega) (by exact ⟨rfl, rfl⟩)
  · refine f_iload_n hZ dX6_mostOf_0 rfl ?_
    refine f_tswIn (tgt := 48) hZ (4) dX6_mostOf_1 (by first | rfl | omega) (by omega) (by omega) (by omega) rfl rfl ?_
    refine f_bipush hZ dX6_mostOf_48 ?_
    exact f_retI hZ hR dX6_mostOf_50 rfl (by omega) (by exact ⟨rfl, rfl⟩)
  · refine f_iload_n hZ dX6_mostOf_0 rfl ?_
    refine f_tswOut (tgt := 51) hZ dX6_mostOf_1 (by omega) (by omega) rfl ?_
    refine f_sipush hZ dX6_mostOf_51 ?_
    exact f_retI hZ hR dX6_mostOf_54 rfl (by omega) (by exact ⟨rfl, rfl⟩)

set_option maxRecDepth 20000 in
set_option maxHeartbeats 4000000 in
theorem t_X6_setDamp {X : fX} {M : fM} {d : Nat} {v : Int} (hv : rg v) : fC X d mX6_setDamp [.ref (xa X 0), .int (iv v)] M (QI fun r M' => M' = up M 1 6 v ∧ r = M 1 6) := by
  refine fC.of (L := [_, _, _]) (by decide +kernel) rfl (Nat.le_of_ble_eq_true rfl) (fun Z hZ hR => ?_)
  refine f_aload_n hZ dX6_setDamp_0 rfl ?_
  refine gX6_10 hZ dX6_setDamp_1 ?_
  refine gX6_91 hZ dX6_setDamp_4 (by first | exact hC | exact isC1 | exact isC7 | exact isC13) (fun r4 => ?_)
  refine f_istore_n (L' := [_, _, _]) hZ dX6_setDamp_7 rfl rfl ?_
  refine f_aload_n hZ dX6_setDamp_8 rfl ?_
  refine gX6_10 hZ dX6_setDamp_9 ?_
  refine f_iload_n hZ dX6_setDamp_12 rfl ?_
  refine pX6_91 hZ dX6_setDamp_13 (by first | exact hC | exact isC1 | exact isC7 | exact isC13) (by omega) ?_
  refine f_iload_n hZ dX6_setDamp_16 rfl ?_
  exact f_retI hZ hR dX6_setDamp_17 rfl (by omega) (by exact ⟨rfl, rfl⟩)

set_option maxRecDepth 20000 in
set_option maxHeartbeats 4000000 in
theorem t_X6_setMoment {X : fX} {M : fM} {d : Nat} {v : Int} (hv : rg v) : fC X d mX6_setMoment [.ref (xa X 0), .int (iv v)] M (QI fun r M' => M' = up M 1 7 v ∧ r = M 1 7) := by
  refine fC.of (L := [_, _, _]) (by decide +kernel) rfl (Nat.le_of_ble_eq_true rfl) (fun Z hZ hR => ?_)
  refine f_aload_n hZ dX6_setMoment_0 rfl ?_
  refine gX6_10 hZ dX6_setMoment_1 ?_
  refine gX6_94 hZ dX6_setMoment_4 (by first | exact hC | exact isC1 | exact isC7 | exact isC13) (fun r4 => ?_)
  refine f_istore_n (L' := [_, _, _]) hZ dX6_setMoment_7 rfl rfl ?_
  refine f_aload_n hZ dX6_setMoment_8 rfl ?_
  refine gX6_10 hZ dX6_setMoment_9 ?_
  refine f_iload_n hZ dX6_setMoment_12 rfl ?_
  refine pX6_94 hZ dX6_setMoment_13 (by first | exact hC | exact isC1 | exact isC7 | exact isC13) (by omega) ?_
  refine f_iload_n hZ dX6_setMoment_16 rfl ?_
  exact f_retI hZ hR dX6_setMoment_17 rfl (by omega) (by exact ⟨rfl, rfl⟩)

abbrev underP (a k : Int) : Prop := k = a ∨ (a = 1 ∧ k = 0) ∨ (a = 2 ∧ k = 0) ∨ (a = 3 ∧ (k = 1 ∨ k = 0)) ∨ (a = 4 ∧ (k = 2 ∨ k = 0)) ∨ (a = 5 ∧ (k = 1 ∨ k = 0))
set_option maxRecDepth 20000 in
set_option maxHeartbeats 4000000 in
theorem t_X6_isUnder {X : fX} {M : fM} {d : Nat} {a k : Int} (ha : 0 ≤ a ∧ a ≤ 5) (hk : 0 ≤ k ∧ k ≤ 5) : fC X d mX6_isUnder [.int (iv a), .int (iv k)] M (QI fun r M' => M' = M ∧ bz r (underP a k)) := by
  refine fC.of (L := [_, _, _, _]) (by decide +kernel) rfl (Nat.le_of_ble_eq_true rfl) (fun Z hZ hR => ?_)
  rcases (show a = 0 ∨ a = 1 ∨ a = 2 ∨ a = 3 ∨ a = 4 ∨ a = 5 by omega) with rfl | rfl | rfl | rfl | rfl | rfl
  · refine f_iload_n hZ dX6_isUnder_0 rfl ?_
    refine f_istore_n (L' := [_, _, _, _]) hZ dX6_isUnder_1 rfl rfl ?_
    refine f_iconst hZ dX6_isUnder_2 ?_
    refine f_istore_n (L' := [_, _, _, _]) hZ dX6_isUnder_3 rfl rfl ?_
    refine f_iload_n hZ dX6_isUnder_4 rfl ?_
    refine f_bipush hZ dX6_isUnder_5 ?_
    refine f_ige (tgt := 39) hZ dX6_isUnder_7 rfl (by omega) (by omega) (fun h7 => ?_) (fun h7 => ?_)
    · exfalso; omega
    · refine f_iload_n hZ dX6_isUnder_10 rfl ?_
      refine f_lt (tgt := 39) hZ dX6_isUnder_11 rfl (by omega) (fun h11 => ?_) (fun h11 => ?_)
      · exfalso; omega
      · refine f_iload_n hZ dX6_isUnder_14 rfl ?_
        refine f_bipush hZ dX6_isUnder_15 ?_
        refine f_ige (tgt := 39) hZ dX6_isUnder_17 rfl (by omega) (by omega) (fun h17 => ?_) (fun h17 => ?_)
        · exfalso; omega
        · refine f_iload_n hZ dX6_isUnder_20 rfl ?_
          refine f_iload_n hZ dX6_isUnder_21 rfl ?_
          refine f_ine (tgt := 27) hZ dX6_isUnder_22 rfl (by omega) (by omega) (fun h22 => ?_) (fun h22 => ?_)
          · refine f_getAbove hZ dX6_isUnder_27 (tb_in 803 (by decide +kernel) (by decide +kernel)) ?_
            refine f_iload_n hZ dX6_isUnder_30 rfl ?_
            refine f_above hZ dX6_isUnder_31 (by omega) (by omega) ?_
            refine f_top (a := -1) rfl ?_
            refine f_istore_n (L' := [_, _, _, _]) hZ dX6_isUnder_32 rfl rfl ?_
            refine f_iinc (L' := [_, _, _, _]) hZ dX6_isUnder_33 rfl rfl ?_
            refine f_goto (tgt := 4) hZ dX6_isUnder_36 rfl ?_
            refine f_iload_n hZ dX6_isUnder_4 rfl ?_
            refine f_bipush hZ dX6_isUnder_5 ?_
            refine f_ige (tgt := 39) hZ dX6_isUnder_7 rfl (by omega) (by omega) (fun h7 => ?_) (fun h7 => ?_)
            · exfalso; omega
            · refine f_iload_n hZ dX6_isUnder_10 rfl ?_
              refine f_lt (tgt := 39) hZ dX6_isUnder_11 rfl (by omega) (fun h11 => ?_) (fun h11 => ?_)
              · refine f_iconst hZ dX6_isUnder_39 ?_
                exact f_retZ hZ hR dX6_isUnder_40 rfl (by omega) (by exact ⟨rfl, by omega⟩)
              · exfalso; omega
          · refine f_iconst hZ dX6_isUnder_25 ?_
            exact f_retZ hZ hR dX6_isUnder_26 rfl (by omega) (by exact ⟨rfl, by omega⟩)
  · refine f_iload_n hZ dX6_isUnder_0 rfl ?_
    refine f_istore_n (L' := [_, _, _, _]) hZ dX6_isUnder_1 rfl rfl ?_
    refine f_iconst hZ dX6_isUnder_2 ?_
    refine f_istore_n (L' := [_, _, _, _]) hZ dX6_isUnder_3 rfl rfl ?_
    refine f_iload_n hZ dX6_isUnder_4 rfl ?_
    refine f_bipush hZ dX6_isUnder_5 ?_
    refine f_ige (tgt := 39) hZ dX6_isUnder_7 rfl (by omega) (by omega) (fun h7 => ?_) (fun h7 => ?_)
    · exfalso; omega
    · refine f_iload_n hZ dX6_isUnder_10 rfl ?_
      refine f_lt (tgt := 39) hZ dX6_isUnder_11 rfl (by omega) (fun h11 => ?_) (fun h11 => ?_)
      · exfalso; omega
      · refine f_iload_n hZ dX6_isUnder_14 rfl ?_
        refine f_bipush hZ dX6_isUnder_15 ?_
        refine f_ige (tgt := 39) hZ dX6_isUnder_17 rfl (by omega) (by omega) (fun h17 => ?_) (fun h17 => ?_)
        · exfalso; omega
        · refine f_iload_n hZ dX6_isUnder_20 rfl ?_
          refine f_iload_n hZ dX6_isUnder_21 rfl ?_
          refine f_ine (tgt := 27) hZ dX6_isUnder_22 rfl (by omega) (by omega) (fun h22 => ?_) (fun h22 => ?_)
          · refine f_getAbove hZ dX6_isUnder_27 (tb_in 803 (by decide +kernel) (by decide +kernel)) ?_
            refine f_iload_n hZ dX6_isUnder_30 rfl ?_
            refine f_above hZ dX6_isUnder_31 (by omega) (by omega) ?_
            refine f_top (a := 0) rfl ?_
            refine f_istore_n (L' := [_, _, _, _]) hZ dX6_isUnder_32 rfl rfl ?_
            refine f_iinc (L' := [_, _, _, _]) hZ dX6_isUnder_33 rfl rfl ?_
            refine f_goto (tgt := 4) hZ dX6_isUnder_36 rfl ?_
            refine f_iload_n hZ dX6_isUnder_4 rfl ?_
            refine f_bipush hZ dX6_isUnder_5 ?_
            refine f_ige (tgt := 39) hZ dX6_isUnder_7 rfl (by omega) (by omega) (fun h7 => ?_) (fun h7 => ?_)
            · exfalso; omega
            · refine f_iload_n hZ dX6_isUnder_10 rfl ?_
              refine f_lt (tgt := 39) hZ dX6_isUnder_11 rfl (by omega) (fun h11 => ?_) (fun h11 => ?_)
              · exfalso; omega
              · refine f_iload_n hZ dX6_isUnder_14 rfl ?_
                refine f_bipush hZ dX6_isUnder_15 ?_
                refine f_ige (tgt := 39) hZ dX6_isUnder_17 rfl (by omega) (by omega) (fun h17 => ?_) (fun h17 => ?_)
                · exfalso; omega
                · refine f_iload_n hZ dX6_isUnder_20 rfl ?_
                  refine f_iload_n hZ dX6_isUnder_21 rfl ?_
                  refine f_ine (tgt := 27) hZ dX6_isUnder_22 rfl (by omega) (by omega) (fun h22 => ?_) (fun h22 => ?_)
                  · refine f_getAbove hZ dX6_isUnder_27 (tb_in 803 (by decide +kernel) (by decide +kernel)) ?_
                    refine f_iload_n hZ dX6_isUnder_30 rfl ?_
                    refine f_above hZ dX6_isUnder_31 (by omega) (by omega) ?_
                    refine f_top (a := -1) rfl ?_
                    refine f_istore_n (L' := [_, _, _, _]) hZ dX6_isUnder_32 rfl rfl ?_
                    refine f_iinc (L' := [_, _, _, _]) hZ dX6_isUnder_33 rfl rfl ?_
                    refine f_goto (tgt := 4) hZ dX6_isUnder_36 rfl ?_
                    refine f_iload_n hZ dX6_isUnder_4 rfl ?_
                    refine f_bipush hZ dX6_isUnder_5 ?_
                    refine f_ige (tgt := 39) hZ dX6_isUnder_7 rfl (by omega) (by omega) (fun h7 => ?_) (fun h7 => ?_)
                    · exfalso; omega
                    · refine f_iload_n hZ dX6_isUnder_10 rfl ?_
                      refine f_lt (tgt := 39) hZ dX6_isUnder_11 rfl (by omega) (fun h11 => ?_) (fun h11 => ?_)
                      · refine f_iconst hZ dX6_isUnder_39 ?_
                        exact f_retZ hZ hR dX6_isUnder_40 rfl (by omega) (by exact ⟨rfl, by omega⟩)
                      · exfalso; omega
                  · refine f_iconst hZ dX6_isUnder_25 ?_
                    exact f_retZ hZ hR dX6_isUnder_26 rfl (by omega) (by exact ⟨rfl, by omega⟩)
          · refine f_iconst hZ dX6_isUnder_25 ?_
            exact f_retZ hZ hR dX6_isUnder_26 rfl (by omega) (by exact ⟨rfl, by omega⟩)
  · refine f_iload_n hZ dX6_isUnder_0 rfl ?_
    refine f_istore_n (L' := [_, _, _, _]) hZ dX6_isUnder_1 rfl rfl ?_
    refine f_iconst hZ dX6_isUnder_2 ?_
    refine f_istore_n (L' := [_, _, _, _]) hZ dX6_isUnder_3 rfl rfl ?_
    refine f_iload_n hZ dX6_isUnder_4 rfl ?_
    refine f_bipush hZ dX6_isUnder_5 ?_
    refine f_ige (tgt := 39) hZ dX6_isUnder_7 rfl (by omega) (by omega) (fun h7 => ?_) (fun h7 => ?_)
    · exfalso; omega
    · refine f_iload_n hZ dX6_isUnder_10 rfl ?_
      refine f_lt (tgt := 39) hZ dX6_isUnder_11 rfl (by omega) (fun h11 => ?_) (fun h11 => ?_)
      · exfalso; omega
      · refine f_iload_n hZ dX6_isUnder_14 rfl ?_
        refine f_bipush hZ dX6_isUnder_15 ?_
        refine f_ige (tgt := 39) hZ dX6_isUnder_17 rfl (by omega) (by omega) (fun h17 => ?_) (fun h17 => ?_)
        · exfalso; omega
        · refine f_iload_n hZ dX6_isUnder_20 rfl ?_
          refine f_iload_n hZ dX6_isUnder_21 rfl ?_
          refine f_ine (tgt := 27) hZ dX6_isUnder_22 rfl (by omega) (by omega) (fun h22 => ?_) (fun h22 => ?_)
          · refine f_getAbove hZ dX6_isUnder_27 (tb_in 803 (by decide +kernel) (by decide +kernel)) ?_
            refine f_iload_n hZ dX6_isUnder_30 rfl ?_
            refine f_above hZ dX6_isUnder_31 (by omega) (by omega) ?_
            refine f_top (a := 0) rfl ?_
            refine f_istore_n (L' := [_, _, _, _]) hZ dX6_isUnder_32 rfl rfl ?_
            refine f_iinc (L' := [_, _, _, _]) hZ dX6_isUnder_33 rfl rfl ?_
            refine f_goto (tgt := 4) hZ dX6_isUnder_36 rfl ?_
            refine f_iload_n hZ dX6_isUnder_4 rfl ?_
            refine f_bipush hZ dX6_isUnder_5 ?_
            refine f_ige (tgt := 39) hZ dX6_isUnder_7 rfl (by omega) (by omega) (fun h7 => ?_) (fun h7 => ?_)
            · exfalso; omega
            · refine f_iload_n hZ dX6_isUnder_10 rfl ?_
              refine f_lt (tgt := 39) hZ dX6_isUnder_11 rfl (by omega) (fun h11 => ?_) (fun h11 => ?_)
              · exfalso; omega
              · refine f_iload_n hZ dX6_isUnder_14 rfl ?_
                refine f_bipush hZ dX6_isUnder_15 ?_
                refine f_ige (tgt := 39) hZ dX6_isUnder_17 rfl (by omega) (by omega) (fun h17 => ?_) (fun h17 => ?_)
                · exfalso; omega
                · refine f_iload_n hZ dX6_isUnder_20 rfl ?_
                  refine f_iload_n hZ dX6_isUnder_21 rfl ?_
                  refine f_ine (tgt := 27) hZ dX6_isUnder_22 rfl (by omega) (by omega) (fun h22 => ?_) (fun h22 => ?_)
                  · refine f_getAbove hZ dX6_isUnder_27 (tb_in 803 (by decide +kernel) (by decide +kernel)) ?_
                    refine f_iload_n hZ dX6_isUnder_30 rfl ?_
                    refine f_above hZ dX6_isUnder_31 (by omega) (by omega) ?_
                    refine f_top (a := -1) rfl ?_
                    refine f_istore_n (L' := [_, _, _, _]) hZ dX6_isUnder_32 rfl rfl ?_
                    refine f_iinc (L' := [_, _, _, _]) hZ dX6_isUnder_33 rfl rfl ?_
                    refine f_goto (tgt := 4) hZ dX6_isUnder_36 rfl ?_
                    refine f_iload_n hZ dX6_isUnder_4 rfl ?_
                    refine f_bipush hZ dX6_isUnder_5 ?_
                    refine f_ige (tgt := 39) hZ dX6_isUnder_7 rfl (by omega) (by omega) (fun h7 => ?_) (fun h7 => ?_)
                    · exfalso; omega
                    · refine f_iload_n hZ dX6_isUnder_10 rfl ?_
                      refine f_lt (tgt := 39) hZ dX6_isUnder_11 rfl (by omega) (fun h11 => ?_) (fun h11 => ?_)
                      · refine f_iconst hZ dX6_isUnder_39 ?_
                        exact f_retZ hZ hR dX6_isUnder_40 rfl (by omega) (by exact ⟨rfl, by omega⟩)
                      · exfalso; omega
                  · refine f_iconst hZ dX6_isUnder_25 ?_
                    exact f_retZ hZ hR dX6_isUnder_26 rfl (by omega) (by exact ⟨rfl, by omega⟩)
          · refine f_iconst hZ dX6_isUnder_25 ?_
            exact f_retZ hZ hR dX6_isUnder_26 rfl (by omega) (by exact ⟨rfl, by omega⟩)
  · refine f_iload_n hZ dX6_isUnder_0 rfl ?_
    refine f_istore_n (L' := [_, _, _, _]) hZ dX6_isUnder_1 rfl rfl ?_
    refine f_iconst hZ dX6_isUnder_2 ?_
    refine f_istore_n (L' := [_, _, _, _]) hZ dX6_isUnder_3 rfl rfl ?_
    refine f_iload_n hZ dX6_isUnder_4 rfl ?_
    refine f_bipush hZ dX6_isUnder_5 ?_
    refine f_ige (tgt := 39) hZ dX6_isUnder_7 rfl (by omega) (by omega) (fun h7 => ?_) (fun h7 => ?_)
    · exfalso; omega
    · refine f_iload_n hZ dX6_isUnder_10 rfl ?_
      refine f_lt (tgt := 39) hZ dX6_isUnder_11 rfl (by omega) (fun h11 => ?_) (fun h11 => ?_)
      · exfalso; omega
      · refine f_iload_n hZ dX6_isUnder_14 rfl ?_
        refine f_bipush hZ dX6_isUnder_15 ?_
        refine f_ige (tgt := 39) hZ dX6_isUnder_17 rfl (by omega) (by omega) (fun h17 => ?_) (fun h17 => ?_)
        · exfalso; omega
        · refine f_iload_n hZ dX6_isUnder_20 rfl ?_
          refine f_iload_n hZ dX6_isUnder_21 rfl ?_
          refine f_ine (tgt := 27) hZ dX6_isUnder_22 rfl (by omega) (by omega) (fun h22 => ?_) (fun h22 => ?_)
          · refine f_getAbove hZ dX6_isUnder_27 (tb_in 803 (by decide +kernel) (by decide +kernel)) ?_
            refine f_iload_n hZ dX6_isUnder_30 rfl ?_
            refine f_above hZ dX6_isUnder_31 (by omega) (by omega) ?_
            refine f_top (a := 1) rfl ?_
            refine f_istore_n (L' := [_, _, _, _]) hZ dX6_isUnder_32 rfl rfl ?_
            refine f_iinc (L' := [_, _, _, _]) hZ dX6_isUnder_33 rfl rfl ?_
            refine f_goto (tgt := 4) hZ dX6_isUnder_36 rfl ?_
            refine f_iload_n hZ dX6_isUnder_4 rfl ?_
            refine f_bipush hZ dX6_isUnder_5 ?_
            refine f_ige (tgt := 39) hZ dX6_isUnder_7 rfl (by omega) (by omega) (fun h7 => ?_) (fun h7 => ?_)
            · exfalso; omega
            · refine f_iload_n hZ dX6_isUnder_10 rfl ?_
              refine f_lt (tgt := 39) hZ dX6_isUnder_11 rfl (by omega) (fun h11 => ?_) (fun h11 => ?_)
              · exfalso; omega
              · refine f_iload_n hZ dX6_isUnder_14 rfl ?_
                refine f_bipush hZ dX6_isUnder_15 ?_
                refine f_ige (tgt := 39) hZ dX6_isUnder_17 rfl (by omega) (by omega) (fun h17 => ?_) (fun h17 => ?_)
                · exfalso; omega
                · refine f_iload_n hZ dX6_isUnder_20 rfl ?_
                  refine f_iload_n hZ dX6_isUnder_21 rfl ?_
                  refine f_ine (tgt := 27) hZ dX6_isUnder_22 rfl (by omega) (by omega) (fun h22 => ?_) (fun h22 => ?_)
                  · refine f_getAbove hZ dX6_isUnder_27 (tb_in 803 (by decide +kernel) (by decide +kernel)) ?_
                    refine f_iload_n hZ dX6_isUnder_30 rfl ?_
                    refine f_above hZ dX6_isUnder_31 (by omega) (by omega) ?_
                    refine f_top (a := 0) rfl ?_
                    refine f_istore_n (L' := [_, _, _, _]) hZ dX6_isUnder_32 rfl rfl ?_
                    refine f_iinc (L' := [_, _, _, _]) hZ dX6_isUnder_33 rfl rfl ?_
                    refine f_goto (tgt := 4) hZ dX6_isUnder_36 rfl ?_
                    refine f_iload_n hZ dX6_isUnder_4 rfl ?_
                    refine f_bipush hZ dX6_isUnder_5 ?_
                    refine f_ige (tgt := 39) hZ dX6_isUnder_7 rfl (by omega) (by omega) (fun h7 => ?_) (fun h7 => ?_)
                    · exfalso; omega
                    · refine f_iload_n hZ dX6_isUnder_10 rfl ?_
                      refine f_lt (tgt := 39) hZ dX6_isUnder_11 rfl (by omega) (fun h11 => ?_) (fun h11 => ?_)
                      · exfalso; omega
                      · refine f_iload_n hZ dX6_isUnder_14 rfl ?_
                        refine f_bipush hZ dX6_isUnder_15 ?_
                        refine f_ige (tgt := 39) hZ dX6_isUnder_17 rfl (by omega) (by omega) (fun h17 => ?_) (fun h17 => ?_)
                        · exfalso; omega
                        · refine f_iload_n hZ dX6_isUnder_20 rfl ?_
                          refine f_iload_n hZ dX6_isUnder_21 rfl ?_
                          refine f_ine (tgt := 27) hZ dX6_isUnder_22 rfl (by omega) (by omega) (fun h22 => ?_) (fun h22 => ?_)
                          · refine f_getAbove hZ dX6_isUnder_27 (tb_in 803 (by decide +kernel) (by decide +kernel)) ?_
                            refine f_iload_n hZ dX6_isUnder_30 rfl ?_
                            refine f_above hZ dX6_isUnder_31 (by omega) (by omega) ?_
                            refine f_top (a := -1) rfl ?_
                            refine f_istore_n (L' := [_, _, _, _]) hZ dX6_isUnder_32 rfl rfl ?_
                            refine f_iinc (L' := [_, _, _, _]) hZ dX6_isUnder_33 rfl rfl ?_
                            refine f_goto (tgt := 4) hZ dX6_isUnder_36 rfl ?_
                            refine f_iload_n hZ dX6_isUnder_4 rfl ?_
                            refine f_bipush hZ dX6_isUnder_5 ?_
                            refine f_ige (tgt := 39) hZ dX6_isUnder_7 rfl (by omega) (by omega) (fun h7 => ?_) (fun h7 => ?_)
                            · exfalso; omega
                            · refine f_iload_n hZ dX6_isUnder_10 rfl ?_
                              refine f_lt (tgt := 39) hZ dX6_isUnder_11 rfl (by omega) (fun h11 => ?_) (fun h11 => ?_)
                              · refine f_iconst hZ dX6_isUnder_39 ?_
                                exact f_retZ hZ hR dX6_isUnder_40 rfl (by omega) (by exact ⟨rfl, by omega⟩)
                              · exfalso; omega
                          · refine f_iconst hZ dX6_isUnder_25 ?_
                            exact f_retZ hZ hR dX6_isUnder_26 rfl (by omega) (by exact ⟨rfl, by omega⟩)
                  · refine f_iconst hZ dX6_isUnder_25 ?_
                    exact f_retZ hZ hR dX6_isUnder_26 rfl (by omega) (by exact ⟨rfl, by omega⟩)
          · refine f_iconst hZ dX6_isUnder_25 ?_
            exact f_retZ hZ hR dX6_isUnder_26 rfl (by omega) (by exact ⟨rfl, by omega⟩)
  · refine f_iload_n hZ dX6_isUnder_0 rfl ?_
    refine f_istore_n (L' := [_, _, _, _]) hZ dX6_isUnder_1 rfl rfl ?_
    refine f_iconst hZ dX6_isUnder_2 ?_
    refine f_istore_n (L' := [_, _, _, _]) hZ dX6_isUnder_3 rfl rfl ?_
    refine f_iload_n hZ dX6_isUnder_4 rfl ?_
    refine f_bipush hZ dX6_isUnder_5 ?_
    refine f_ige (tgt := 39) hZ dX6_isUnder_7 rfl (by omega) (by omega) (fun h7 => ?_) (fun h7 => ?_)
    · exfalso; omega
    · refine f_iload_n hZ dX6_isUnder_10 rfl ?_
      refine f_lt (tgt := 39) hZ dX6_isUnder_11 rfl (by omega) (fun h11 => ?_) (fun h11 => ?_)
      · exfalso; omega
      · refine f_iload_n hZ dX6_isUnder_14 rfl ?_
        refine f_bipush hZ dX6_isUnder_15 ?_
        refine f_ige (tgt := 39) hZ dX6_isUnder_17 rfl (by omega) (by omega) (fun h17 => ?_) (fun h17 => ?_)
        · exfalso; omega
        · refine f_iload_n hZ dX6_isUnder_20 rfl ?_
          refine f_iload_n hZ dX6_isUnder_21 rfl ?_
          refine f_ine (tgt := 27) hZ dX6_isUnder_22 rfl (by omega) (by omega) (fun h22 => ?_) (fun h22 => ?_)
          · refine f_getAbove hZ dX6_isUnder_27 (tb_in 803 (by decide +kernel) (by decide +kernel)) ?_
            refine f_iload_n hZ dX6_isUnder_30 rfl ?_
            refine f_above hZ dX6_isUnder_31 (by omega) (by omega) ?_
            refine f_top (a := 2) rfl ?_
            refine f_istore_n (L' := [_, _, _, _]) hZ dX6_isUnder_32 rfl rfl ?_
            refine f_iinc (L' := [_, _, _, _]) hZ dX6_isUnder_33 rfl rfl ?_
            refine f_goto (tgt := 4) hZ dX6_isUnder_36 rfl ?_
            refine f_iload_n hZ dX6_isUnder_4 rfl ?_
            refine f_bipush hZ dX6_isUnder_5 ?_
            refine f_ige (tgt := 39) hZ dX6_isUnder_7 rfl (by omega) (by omega) (fun h7 => ?_) (fun h7 => ?_)
            · exfalso; omega
            · refine f_iload_n hZ dX6_isUnder_10 rfl ?_
              refine f_lt (tgt := 39) hZ dX6_isUnder_11 rfl (by omega) (fun h11 => ?_) (fun h11 => ?_)
              · exfalso; omega
              · refine f_iload_n hZ dX6_isUnder_14 rfl ?_
                refine f_bipush hZ dX6_isUnder_15 ?_
                refine f_ige (tgt := 39) hZ dX6_isUnder_17 rfl (by omega) (by omega) (fun h17 => ?_) (fun h17 => ?_)
                · exfalso; omega
                · refine f_iload_n hZ dX6_isUnder_20 rfl ?_
                  refine f_iload_n hZ dX6_isUnder_21 rfl ?_
                  refine f_ine (tgt := 27) hZ dX6_isUnder_22 rfl (by omega) (by omega) (fun h22 => ?_) (fun h22 => ?_)
                  · refine f_getAbove hZ dX6_isUnder_27 (tb_in 803 (by decide +kernel) (by decide +kernel)) ?_
                    refine f_iload_n hZ dX6_isUnder_30 rfl ?_
                    refine f_above hZ dX6_isUnder_31 (by omega) (by omega) ?_
                    refine f_top (a := 0) rfl ?_
                    refine f_istore_n (L' := [_, _, _, _]) hZ dX6_isUnder_32 rfl rfl ?_
                    refine f_iinc (L' := [_, _, _, _]) hZ dX6_isUnder_33 rfl rfl ?_
                    refine f_goto (tgt := 4) hZ dX6_isUnder_36 rfl ?_
                    refine f_iload_n hZ dX6_isUnder_4 rfl ?_
                    refine f_bipush hZ dX6_isUnder_5 ?_
                    refine f_ige (tgt := 39) hZ dX6_isUnder_7 rfl (by omega) (by omega) (fun h7 => ?_) (fun h7 => ?_)
                    · exfalso; omega
                    · refine f_iload_n hZ dX6_isUnder_10 rfl ?_
                      refine f_lt (tgt := 39) hZ dX6_isUnder_11 rfl (by omega) (fun h11 => ?_) (fun h11 => ?_)
                      · exfalso; omega
                      · refine f_iload_n hZ dX6_isUnder_14 rfl ?_
                        refine f_bipush hZ dX6_isUnder_15 ?_
                        refine f_ige (tgt := 39) hZ dX6_isUnder_17 rfl (by omega) (by omega) (fun h17 => ?_) (fun h17 => ?_)
                        · exfalso; omega
                        · refine f_iload_n hZ dX6_isUnder_20 rfl ?_
                          refine f_iload_n hZ dX6_isUnder_21 rfl ?_
                          refine f_ine (tgt := 27) hZ dX6_isUnder_22 rfl (by omega) (by omega) (fun h22 => ?_) (fun h22 => ?_)
                          · refine f_getAbove hZ dX6_isUnder_27 (tb_in 803 (by decide +kernel) (by decide +kernel)) ?_
                            refine f_iload_n hZ dX6_isUnder_30 rfl ?_
                            refine f_above hZ dX6_isUnder_31 (by omega) (by omega) ?_
                            refine f_top (a := -1) rfl ?_
                            refine f_istore_n (L' := [_, _, _, _]) hZ dX6_isUnder_32 rfl rfl ?_
                            refine f_iinc (L' := [_, _, _, _]) hZ dX6_isUnder_33 rfl rfl ?_
                            refine f_goto (tgt := 4) hZ dX6_isUnder_36 rfl ?_
                            refine f_iload_n hZ dX6_isUnder_4 rfl ?_
                            refine f_bipush hZ dX6_isUnder_5 ?_
                            refine f_ige (tgt := 39) hZ dX6_isUnder_7 rfl (by omega) (by omega) (fun h7 => ?_) (fun h7 => ?_)
                            · exfalso; omega
                            · refine f_iload_n hZ dX6_isUnder_10 rfl ?_
                              refine f_lt (tgt := 39) hZ dX6_isUnder_11 rfl (by omega) (fun h11 => ?_) (fun h11 => ?_)
                              · refine f_iconst hZ dX6_isUnder_39 ?_
                                exact f_retZ hZ hR dX6_isUnder_40 rfl (by omega) (by exact ⟨rfl, by omega⟩)
                              · exfalso; omega
                          · refine f_iconst hZ dX6_isUnder_25 ?_
                            exact f_retZ hZ hR dX6_isUnder_26 rfl (by omega) (by exact ⟨rfl, by omega⟩)
                  · refine f_iconst hZ dX6_isUnder_25 ?_
                    exact f_retZ hZ hR dX6_isUnder_26 rfl (by omega) (by exact ⟨rfl, by omega⟩)
          · refine f_iconst hZ dX6_isUnder_25 ?_
            exact f_retZ hZ hR dX6_isUnder_26 rfl (by omega) (by exact ⟨rfl, by omega⟩)
  · refine f_iload_n hZ dX6_isUnder_0 rfl ?_
    refine f_istore_n (L' := [_, _, _, _]) hZ dX6_isUnder_1 rfl rfl ?_
    refine f_iconst hZ dX6_isUnder_2 ?_
    refine f_istore_n (L' := [_, _, _, _]) hZ dX6_isUnder_3 rfl rfl ?_
    refine f_iload_n hZ dX6_isUnder_4 rfl ?_
    refine f_bipush hZ dX6_isUnder_5 ?_
    refine f_ige (tgt := 39) hZ dX6_isUnder_7 rfl (by omega) (by omega) (fun h7 => ?_) (fun h7 => ?_)
    · exfalso; omega
    · refine f_iload_n hZ dX6_isUnder_10 rfl ?_
      refine f_lt (tgt := 39) hZ dX6_isUnder_11 rfl (by omega) (fun h11 => ?_) (fun h11 => ?_)
      · exfalso; omega
      · refine f_iload_n hZ dX6_isUnder_14 rfl ?_
        refine f_bipush hZ dX6_isUnder_15 ?_
        refine f_ige (tgt := 39) hZ dX6_isUnder_17 rfl (by omega) (by omega) (fun h17 => ?_) (fun h17 => ?_)
        · exfalso; omega
        · refine f_iload_n hZ dX6_isUnder_20 rfl ?_
          refine f_iload_n hZ dX6_isUnder_21 rfl ?_
          refine f_ine (tgt := 27) hZ dX6_isUnder_22 rfl (by omega) (by omega) (fun h22 => ?_) (fun h22 => ?_)
          · refine f_getAbove hZ dX6_isUnder_27 (tb_in 803 (by decide +kernel) (by decide +kernel)) ?_
            refine f_iload_n hZ dX6_isUnder_30 rfl ?_
            refine f_above hZ dX6_isUnder_31 (by omega) (by omega) ?_
            refine f_top (a := 1) rfl ?_
            refine f_istore_n (L' := [_, _, _, _]) hZ dX6_isUnder_32 rfl rfl ?_
            refine f_iinc (L' := [_, _, _, _]) hZ dX6_isUnder_33 rfl rfl ?_
            refine f_goto (tgt := 4) hZ dX6_isUnder_36 rfl ?_
            refine f_iload_n hZ dX6_isUnder_4 rfl ?_
            refine f_bipush hZ dX6_isUnder_5 ?_
            refine f_ige (tgt := 39) hZ dX6_isUnder_7 rfl (by omega) (by omega) (fun h7 => ?_) (fun h7 => ?_)
            · exfalso; omega
            · refine f_iload_n hZ dX6_isUnder_10 rfl ?_
              refine f_lt (tgt := 39) hZ dX6_isUnder_11 rfl (by omega) (fun h11 => ?_) (fun h11 => ?_)
              · exfalso; omega
              · refine f_iload_n hZ dX6_isUnder_14 rfl ?_
                refine f_bipush hZ dX6_isUnder_15 ?_
                refine f_ige (tgt := 39) hZ dX6_isUnder_17 rfl (by omega) (by omega) (fun h17 => ?_) (fun h17 => ?_)
                · exfalso; omega
                · refine f_iload_n hZ dX6_isUnder_20 rfl ?_
                  refine f_iload_n hZ dX6_isUnder_21 rfl ?_
                  refine f_ine (tgt := 27) hZ dX6_isUnder_22 rfl (by omega) (by omega) (fun h22 => ?_) (fun h22 => ?_)
                  · refine f_getAbove hZ dX6_isUnder_27 (tb_in 803 (by decide +kernel) (by decide +kernel)) ?_
                    refine f_iload_n hZ dX6_isUnder_30 rfl ?_
                    refine f_above hZ dX6_isUnder_31 (by omega) (by omega) ?_
                    refine f_top (a := 0) rfl ?_
                    refine f_istore_n (L' := [_, _, _, _]) hZ dX6_isUnder_32 rfl rfl ?_
                    refine f_iinc (L' := [_, _, _, _]) hZ dX6_isUnder_33 rfl rfl ?_
                    refine f_goto (tgt := 4) hZ dX6_isUnder_36 rfl ?_
                    refine f_iload_n hZ dX6_isUnder_4 rfl ?_
                    refine f_bipush hZ dX6_isUnder_5 ?_
                    refine f_ige (tgt := 39) hZ dX6_isUnder_7 rfl (by omega) (by omega) (fun h7 => ?_) (fun h7 => ?_)
                    · exfalso; omega
                    · refine f_iload_n hZ dX6_isUnder_10 rfl ?_
                      refine f_lt (tgt := 39) hZ dX6_isUnder_11 rfl (by omega) (fun h11 => ?_) (fun h11 => ?_)
                      · exfalso; omega
                      · refine f_iload_n hZ dX6_isUnder_14 rfl ?_
                        refine f_bipush hZ dX6_isUnder_15 ?_
                        refine f_ige (tgt := 39) hZ dX6_isUnder_17 rfl (by omega) (by omega) (fun h17 => ?_) (fun h17 => ?_)
                        · exfalso; omega
                        · refine f_iload_n hZ dX6_isUnder_20 rfl ?_
                          refine f_iload_n hZ dX6_isUnder_21 rfl ?_
                          refine f_ine (tgt := 27) hZ dX6_isUnder_22 rfl (by omega) (by omega) (fun h22 => ?_) (fun h22 => ?_)
                          · refine f_getAbove hZ dX6_isUnder_27 (tb_in 803 (by decide +kernel) (by decide +kernel)) ?_
                            refine f_iload_n hZ dX6_isUnder_30 rfl ?_
                            refine f_above hZ dX6_isUnder_31 (by omega) (by omega) ?_
                            refine f_top (a := -1) rfl ?_
                            refine f_istore_n (L' := [_, _, _, _]) hZ dX6_isUnder_32 rfl rfl ?_
                            refine f_iinc (L' := [_, _, _, _]) hZ dX6_isUnder_33 rfl rfl ?_
                            refine f_goto (tgt := 4) hZ dX6_isUnder_36 rfl ?_
                            refine f_iload_n hZ dX6_isUnder_4 rfl ?_
                            refine f_bipush hZ dX6_isUnder_5 ?_
                            refine f_ige (tgt := 39) hZ dX6_isUnder_7 rfl (by omega) (by omega) (fun h7 => ?_) (fun h7 => ?_)
                            · exfalso; omega
                            · refine f_iload_n hZ dX6_isUnder_10 rfl ?_
                              refine f_lt (tgt := 39) hZ dX6_isUnder_11 rfl (by omega) (fun h11 => ?_) (fun h11 => ?_)
                              · refine f_iconst hZ dX6_isUnder_39 ?_
                                exact f_retZ hZ hR dX6_isUnder_40 rfl (by omega) (by exact ⟨rfl, by omega⟩)
                              · exfalso; omega
                          · refine f_iconst hZ dX6_isUnder_25 ?_
                            exact f_retZ hZ hR dX6_isUnder_26 rfl (by omega) (by exact ⟨rfl, by omega⟩)
                  · refine f_iconst hZ dX6_isUnder_25 ?_
                    exact f_retZ hZ hR dX6_isUnder_26 rfl (by omega) (by exact ⟨rfl, by omega⟩)
          · refine f_iconst hZ dX6_isUnder_25 ?_
            exact f_retZ hZ hR dX6_isUnder_26 rfl (by omega) (by exact ⟨rfl, by omega⟩)

