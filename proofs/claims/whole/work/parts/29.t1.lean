/-! Telling: what its rows mean -/
abbrev toldP (M : fM) (x : Int) : Prop := 0 ≤ x ∧ x < 403 ∧ M 40 x ≠ 2147483647
def cut4 (f : Int → Int) : Int → Int := fun w => if 0 ≤ w ∧ w < 4 then f w else 0
theorem cut4_in {f : Int → Int} {w : Int} (h : 0 ≤ w ∧ w < 4) : cut4 f w = f w := if_pos h
/-- the state in the rows of a depth -/
def tS (M : fM) (dp t e c f : Int) (xs : List Int) : sS := (cut4 (fun w => M 43 (dp * 4 + w)), cut4 (fun w => M 44 (dp * 4 + w)), t, e, c, f, xs)
def tV (M : fM) : Int → Int → Int := fun w l => M 46 (w * 3 + l)
abbrev tR (M : fM) (dp : Int) : Prop := (∀ w, 0 ≤ w → w < 4 → (0 ≤ M 43 (dp * 4 + w) ∧ M 43 (dp * 4 + w) ≤ 99) ∧ (0 ≤ M 44 (dp * 4 + w) ∧ M 44 (dp * 4 + w) ≤ 2)) ∧ ∀ j, 0 ≤ j → j < 12 → 0 ≤ M 46 j ∧ M 46 j ≤ 6
set_option maxRecDepth 20000 in
set_option maxHeartbeats 4000000 in
theorem t_X4_tells {X : fX} {M : fM} {d : Nat} {x : Int} (hx : rg x) : fC X d mX4_tells [.ref (xa X 39), .int (iv x)] M (QI fun r M' => M' = M ∧ bz r (toldP M x)) := by
  refine fC.of (L := [_, _]) (by decide +kernel) rfl (Nat.le_of_ble_eq_true rfl) (fun Z hZ hR => ?_)
  refine f_iload_n hZ dX4_tells_0 rfl ?_
  refine f_lt (tgt := 26) hZ dX4_tells_1 rfl (by omega) (fun h1 => ?_) (fun h1 => ?_)
  · refine f_iconst hZ dX4_tells_26 ?_
    exact f_retZ hZ hR dX4_tells_27 rfl (by omega) (by exact ⟨rfl, by omega⟩)
  · refine f_iload_n hZ dX4_tells_4 rfl ?_
    refine f_sipush hZ dX4_tells_5 ?_
    refine f_ige (tgt := 26) hZ dX4_tells_8 rfl (by omega) (by omega) (fun h8 => ?_) (fun h8 => ?_)
    · refine f_iconst hZ dX4_tells_26 ?_
      exact f_retZ hZ hR dX4_tells_27 rfl (by omega) (by exact ⟨rfl, by omega⟩)
    · refine f_aload_n hZ dX4_tells_11 rfl ?_
      refine gX4_11 hZ dX4_tells_12 ?_
      refine f_iload_n hZ dX4_tells_15 rfl ?_
      refine f_iaload hZ dX4_tells_16 (by first | rfl | exact hC.t1 | exact hC.t2 | exact hC.t3 | exact hC.t4 | exact hC.t5) (by first | rfl | exact hC.l1 | exact hC.l2 | exact hC.l3 | exact hC.l4 | exact hC.l5) (by omega) (by omega) (fun r16 => ?_)
      refine f_ldc (v := (2147483647 : Int32)) hZ (2147483647) dX4_tells_17 (tb_in 569 (by decide +kernel) (by decide +kernel)) (by decide) ?_
      refine f_ieq (tgt := 26) hZ dX4_tells_19 rfl (by omega) (by omega) (fun h19 => ?_) (fun h19 => ?_)
      · refine f_iconst hZ dX4_tells_26 ?_
        exact f_retZ hZ hR dX4_tells_27 rfl (by omega) (by exact ⟨rfl, by omega⟩)
      · refine f_iconst hZ dX4_tells_22 ?_
        refine f_goto (tgt := 27) hZ dX4_tells_23 rfl ?_
        exact f_retZ hZ hR dX4_tells_27 rfl (by omega) (by exact ⟨rfl, by omega⟩)

set_option maxRecDepth 20000 in
set_option maxHeartbeats 4000000 in
theorem t_X4_leastOf {X : fX} {M : fM} {d : Nat} {x : Int} (hx : rg x) (h40 : 0 ≤ M 40 x) : fC X (d + 1) mX4_leastOf [.ref (xa X 39), .int (iv x)] M (QI fun r M' => M' = M ∧ ((toldP M x ∧ r = (M 40 x).tdiv 10000) ∨ (¬ toldP M x ∧ r = -1))) := by
  refine fC.of (L := [_, _]) (by decide +kernel) rfl (Nat.le_of_ble_eq_true rfl) (fun Z hZ hR => ?_)
  refine f_aload_n hZ dX4_leastOf_0 rfl ?_
  refine f_iload_n hZ dX4_leastOf_1 rfl ?_
  refine vX4_56 hZ dX4_leastOf_2 (t_X4_tells (by omega)) (fun a2 M2 r2 h2 => ?_)
  obtain ⟨e2, h2⟩ := h2
  replace e2 := e2.symm
  subst e2
  refine f_eq (tgt := 21) hZ dX4_leastOf_5 rfl (by first | omega | exact ⟨by have := (tmodp (a := M 40 x) (b := 10000) (by omega) (by omega)).1; omega, by have := (tmodp (a := M 40 x) (b := 10000) (by omega) (by omega)).2; omega⟩ | (have := Int.tdiv_le_self 10000 h40; have := Int.tdiv_nonneg h40 (show (0:Int) ≤ 10000 by omega); omega)) (fun h5 => ?_) (fun h5 => ?_)
  · refine f_iconst hZ dX4_leastOf_21 ?_
    exact f_retI hZ hR dX4_leastOf_22 rfl (by first | omega | exact ⟨by have := (tmodp (a := M 40 x) (b := 10000) (by omega) (by omega)).1; omega, by have := (tmodp (a := M 40 x) (b := 10000) (by omega) (by omega)).2; omega⟩ | (have := Int.tdiv_le_self 10000 h40; have := Int.tdiv_nonneg h40 (show (0:Int) ≤ 10000 by omega); omega)) (by refine ⟨rfl, ?_⟩; first | exact Or.inl ⟨by omega, rfl⟩ | exact Or.inr ⟨by omega, rfl⟩)
  · refine f_aload_n hZ dX4_leastOf_8 rfl ?_
    refine gX4_11 hZ dX4_leastOf_9 ?_
    refine f_iload_n hZ dX4_leastOf_12 rfl ?_
    refine f_iaload hZ dX4_leastOf_13 (by first | rfl | exact hC.t1 | exact hC.t2 | exact hC.t3 | exact hC.t4 | exact hC.t5) (by first | rfl | exact hC.l1 | exact hC.l2 | exact hC.l3 | exact hC.l4 | exact hC.l5) (by first | omega | exact ⟨by have := (tmodp (a := M 40 x) (b := 10000) (by omega) (by omega)).1; omega, by have := (tmodp (a := M 40 x) (b := 10000) (by omega) (by omega)).2; omega⟩ | (have := Int.tdiv_le_self 10000 h40; have := Int.tdiv_nonneg h40 (show (0:Int) ≤ 10000 by omega); omega)) (by first | omega | exact ⟨by have := (tmodp (a := M 40 x) (b := 10000) (by omega) (by omega)).1; omega, by have := (tmodp (a := M 40 x) (b := 10000) (by omega) (by omega)).2; omega⟩ | (have := Int.tdiv_le_self 10000 h40; have := Int.tdiv_nonneg h40 (show (0:Int) ≤ 10000 by omega); omega)) (fun r13 => ?_)
    refine f_sipush hZ dX4_leastOf_14 ?_
    refine f_idiv hZ dX4_leastOf_17 (by first | omega | exact ⟨by have := (tmodp (a := M 40 x) (b := 10000) (by omega) (by omega)).1; omega, by have := (tmodp (a := M 40 x) (b := 10000) (by omega) (by omega)).2; omega⟩ | (have := Int.tdiv_le_self 10000 h40; have := Int.tdiv_nonneg h40 (show (0:Int) ≤ 10000 by omega); omega)) (by first | omega | exact ⟨by have := (tmodp (a := M 40 x) (b := 10000) (by omega) (by omega)).1; omega, by have := (tmodp (a := M 40 x) (b := 10000) (by omega) (by omega)).2; omega⟩ | (have := Int.tdiv_le_self 10000 h40; have := Int.tdiv_nonneg h40 (show (0:Int) ≤ 10000 by omega); omega)) (by first | omega | exact ⟨by have := (tmodp (a := M 40 x) (b := 10000) (by omega) (by omega)).1; omega, by have := (tmodp (a := M 40 x) (b := 10000) (by omega) (by omega)).2; omega⟩ | (have := Int.tdiv_le_self 10000 h40; have := Int.tdiv_nonneg h40 (show (0:Int) ≤ 10000 by omega); omega)) (by first | omega | exact ⟨by have := (tmodp (a := M 40 x) (b := 10000) (by omega) (by omega)).1; omega, by have := (tmodp (a := M 40 x) (b := 10000) (by omega) (by omega)).2; omega⟩ | (have := Int.tdiv_le_self 10000 h40; have := Int.tdiv_nonneg h40 (show (0:Int) ≤ 10000 by omega); omega)) ?_
    refine f_goto (tgt := 22) hZ dX4_leastOf_18 rfl ?_
    exact f_retI hZ hR dX4_leastOf_22 rfl (by first | omega | exact ⟨by have := (tmodp (a := M 40 x) (b := 10000) (by omega) (by omega)).1; omega, by have := (tmodp (a := M 40 x) (b := 10000) (by omega) (by omega)).2; omega⟩ | (have := Int.tdiv_le_self 10000 h40; have := Int.tdiv_nonneg h40 (show (0:Int) ≤ 10000 by omega); omega)) (by refine ⟨rfl, ?_⟩; first | exact Or.inl ⟨by omega, rfl⟩ | exact Or.inr ⟨by omega, rfl⟩)

set_option maxRecDepth 20000 in
set_option maxHeartbeats 4000000 in
theorem t_X4_firstOf {X : fX} {M : fM} {d : Nat} {x : Int} (hx : rg x) (h40 : 0 ≤ M 40 x) : fC X (d + 1) mX4_firstOf [.ref (xa X 39), .int (iv x)] M (QI fun r M' => M' = M ∧ ((toldP M x ∧ r = (M 40 x).tmod 10000) ∨ (¬ toldP M x ∧ r = -1))) := by
  refine fC.of (L := [_, _]) (by decide +kernel) rfl (Nat.le_of_ble_eq_true rfl) (fun Z hZ hR => ?_)
  refine f_aload_n hZ dX4_firstOf_0 rfl ?_
  refine f_iload_n hZ dX4_firstOf_1 rfl ?_
  refine vX4_56 hZ dX4_firstOf_2 (t_X4_tells (by omega)) (fun a2 M2 r2 h2 => ?_)
  obtain ⟨e2, h2⟩ := h2
  replace e2 := e2.symm
  subst e2
  refine f_eq (tgt := 21) hZ dX4_firstOf_5 rfl (by first | omega | exact ⟨by have := (tmodp (a := M 40 x) (b := 10000) (by omega) (by omega)).1; omega, by have := (tmodp (a := M 40 x) (b := 10000) (by omega) (by omega)).2; omega⟩ | (have := Int.tdiv_le_self 10000 h40; have := Int.tdiv_nonneg h40 (show (0:Int) ≤ 10000 by omega); omega)) (fun h5 => ?_) (fun h5 => ?_)
  · refine f_iconst hZ dX4_firstOf_21 ?_
    exact f_retI hZ hR dX4_firstOf_22 rfl (by first | omega | exact ⟨by have := (tmodp (a := M 40 x) (b := 10000) (by omega) (by omega)).1; omega, by have := (tmodp (a := M 40 x) (b := 10000) (by omega) (by omega)).2; omega⟩ | (have := Int.tdiv_le_self 10000 h40; have := Int.tdiv_nonneg h40 (show (0:Int) ≤ 10000 by omega); omega)) (by refine ⟨rfl, ?_⟩; first | exact Or.inl ⟨by omega, rfl⟩ | exact Or.inr ⟨by omega, rfl⟩)
  · refine f_aload_n hZ dX4_firstOf_8 rfl ?_
    refine gX4_11 hZ dX4_firstOf_9 ?_
    refine f_iload_n hZ dX4_firstOf_12 rfl ?_
    refine f_iaload hZ dX4_firstOf_13 (by first | rfl | exact hC.t1 | exact hC.t2 | exact hC.t3 | exact hC.t4 | exact hC.t5) (by first | rfl | exact hC.l1 | exact hC.l2 | exact hC.l3 | exact hC.l4 | exact hC.l5) (by first | omega | exact ⟨by have := (tmodp (a := M 40 x) (b := 10000) (by omega) (by omega)).1; omega, by have := (tmodp (a := M 40 x) (b := 10000) (by omega) (by omega)).2; omega⟩ | (have := Int.tdiv_le_self 10000 h40; have := Int.tdiv_nonneg h40 (show (0:Int) ≤ 10000 by omega); omega)) (by first | omega | exact ⟨by have := (tmodp (a := M 40 x) (b := 10000) (by omega) (by omega)).1; omega, by have := (tmodp (a := M 40 x) (b := 10000) (by omega) (by omega)).2; omega⟩ | (have := Int.tdiv_le_self 10000 h40; have := Int.tdiv_nonneg h40 (show (0:Int) ≤ 10000 by omega); omega)) (fun r13 => ?_)
    refine f_sipush hZ dX4_firstOf_14 ?_
    refine f_irem hZ dX4_firstOf_17 (by first | omega | exact ⟨by have := (tmodp (a := M 40 x) (b := 10000) (by omega) (by omega)).1; omega, by have := (tmodp (a := M 40 x) (b := 10000) (by omega) (by omega)).2; omega⟩ | (have := Int.tdiv_le_self 10000 h40; have := Int.tdiv_nonneg h40 (show (0:Int) ≤ 10000 by omega); omega)) (by first | omega | exact ⟨by have := (tmodp (a := M 40 x) (b := 10000) (by omega) (by omega)).1; omega, by have := (tmodp (a := M 40 x) (b := 10000) (by omega) (by omega)).2; omega⟩ | (have := Int.tdiv_le_self 10000 h40; have := Int.tdiv_nonneg h40 (show (0:Int) ≤ 10000 by omega); omega)) (by first | omega | exact ⟨by have := (tmodp (a := M 40 x) (b := 10000) (by omega) (by omega)).1; omega, by have := (tmodp (a := M 40 x) (b := 10000) (by omega) (by omega)).2; omega⟩ | (have := Int.tdiv_le_self 10000 h40; have := Int.tdiv_nonneg h40 (show (0:Int) ≤ 10000 by omega); omega)) (by first | omega | exact ⟨by have := (tmodp (a := M 40 x) (b := 10000) (by omega) (by omega)).1; omega, by have := (tmodp (a := M 40 x) (b := 10000) (by omega) (by omega)).2; omega⟩ | (have := Int.tdiv_le_self 10000 h40; have := Int.tdiv_nonneg h40 (show (0:Int) ≤ 10000 by omega); omega)) ?_
    refine f_goto (tgt := 22) hZ dX4_firstOf_18 rfl ?_
    exact f_retI hZ hR dX4_firstOf_22 rfl (by first | omega | exact ⟨by have := (tmodp (a := M 40 x) (b := 10000) (by omega) (by omega)).1; omega, by have := (tmodp (a := M 40 x) (b := 10000) (by omega) (by omega)).2; omega⟩ | (have := Int.tdiv_le_self 10000 h40; have := Int.tdiv_nonneg h40 (show (0:Int) ≤ 10000 by omega); omega)) (by refine ⟨rfl, ?_⟩; first | exact Or.inl ⟨by omega, rfl⟩ | exact Or.inr ⟨by omega, rfl⟩)

set_option maxRecDepth 20000 in
set_option maxHeartbeats 4000000 in
theorem t_X4_cheapestOf {X : fX} {M : fM} {d : Nat} {x : Int} (hx : rg x) : fC X (d + 1) mX4_cheapestOf [.ref (xa X 39), .int (iv x)] M (QI fun r M' => M' = M ∧ ((toldP M x ∧ r = M 41 x) ∨ (¬ toldP M x ∧ r = -1))) := by
  refine fC.of (L := [_, _]) (by decide +kernel) rfl (Nat.le_of_ble_eq_true rfl) (fun Z hZ hR => ?_)
  refine f_aload_n hZ dX4_cheapestOf_0 rfl ?_
  refine f_iload_n hZ dX4_cheapestOf_1 rfl ?_
  refine vX4_56 hZ dX4_cheapestOf_2 (t_X4_tells (by omega)) (fun a2 M2 r2 h2 => ?_)
  obtain ⟨e2, h2⟩ := h2
  replace e2 := e2.symm
  subst e2
  refine f_eq (tgt := 17) hZ dX4_cheapestOf_5 rfl (by omega) (fun h5 => ?_) (fun h5 => ?_)
  · refine f_iconst hZ dX4_cheapestOf_17 ?_
    exact f_retI hZ hR dX4_cheapestOf_18 rfl (by omega) (by refine ⟨rfl, ?_⟩; first | exact Or.inl ⟨by omega, rfl⟩ | exact Or.inr ⟨by omega, rfl⟩)
  · refine f_aload_n hZ dX4_cheapestOf_8 rfl ?_
    refine gX4_15 hZ dX4_cheapestOf_9 ?_
    refine f_iload_n hZ dX4_cheapestOf_12 rfl ?_
    refine f_iaload hZ dX4_cheapestOf_13 (by first | rfl | exact hC.t1 | exact hC.t2 | exact hC.t3 | exact hC.t4 | exact hC.t5) (by first | rfl | exact hC.l1 | exact hC.l2 | exact hC.l3 | exact hC.l4 | exact hC.l5) (by omega) (by omega) (fun r13 => ?_)
    refine f_goto (tgt := 18) hZ dX4_cheapestOf_14 rfl ?_
    exact f_retI hZ hR dX4_cheapestOf_18 rfl (by omega) (by refine ⟨rfl, ?_⟩; first | exact Or.inl ⟨by omega, rfl⟩ | exact Or.inr ⟨by omega, rfl⟩)

set_option maxRecDepth 20000 in
set_option maxHeartbeats 4000000 in
theorem t_X4_liesBetween {X : fX} {M : fM} {d : Nat} {x : Int} (hx : rg x) : fC X d mX4_liesBetween [.ref (xa X 39), .int (iv x)] M (QI fun r M' => M' = M ∧ bz r (0 ≤ x ∧ x < 403 ∧ M 42 x = 1)) := by
  refine fC.of (L := [_, _]) (by decide +kernel) rfl (Nat.le_of_ble_eq_true rfl) (fun Z hZ hR => ?_)
  refine f_iload_n hZ dX4_liesBetween_0 rfl ?_
  refine f_lt (tgt := 25) hZ dX4_liesBetween_1 rfl (by omega) (fun h1 => ?_) (fun h1 => ?_)
  · refine f_iconst hZ dX4_liesBetween_25 ?_
    exact f_retZ hZ hR dX4_liesBetween_26 rfl (by omega) (by exact ⟨rfl, by omega⟩)
  · refine f_iload_n hZ dX4_liesBetween_4 rfl ?_
    refine f_sipush hZ dX4_liesBetween_5 ?_
    refine f_ige (tgt := 25) hZ dX4_liesBetween_8 rfl (by omega) (by omega) (fun h8 => ?_) (fun h8 => ?_)
    · refine f_iconst hZ dX4_liesBetween_25 ?_
      exact f_retZ hZ hR dX4_liesBetween_26 rfl (by omega) (by exact ⟨rfl, by omega⟩)
    · refine f_aload_n hZ dX4_liesBetween_11 rfl ?_
      refine gX4_18 hZ dX4_liesBetween_12 ?_
      refine f_iload_n hZ dX4_liesBetween_15 rfl ?_
      refine f_iaload hZ dX4_liesBetween_16 (by first | rfl | exact hC.t1 | exact hC.t2 | exact hC.t3 | exact hC.t4 | exact hC.t5) (by first | rfl | exact hC.l1 | exact hC.l2 | exact hC.l3 | exact hC.l4 | exact hC.l5) (by omega) (by omega) (fun r16 => ?_)
      refine f_iconst hZ dX4_liesBetween_17 ?_
      refine f_ine (tgt := 25) hZ dX4_liesBetween_18 rfl (by omega) (by omega) (fun h18 => ?_) (fun h18 => ?_)
      · refine f_iconst hZ dX4_liesBetween_25 ?_
        exact f_retZ hZ hR dX4_liesBetween_26 rfl (by omega) (by exact ⟨rfl, by omega⟩)
      · refine f_iconst hZ dX4_liesBetween_21 ?_
        refine f_goto (tgt := 26) hZ dX4_liesBetween_22 rfl ?_
        exact f_retZ hZ hR dX4_liesBetween_26 rfl (by omega) (by exact ⟨rfl, by omega⟩)

def useZ (M : fM) (w : Int) : Int := if M 46 (w * 3 + 1) < M 46 (w * 3 + 2) then 2 else 1
set_option maxRecDepth 20000 in
set_option maxHeartbeats 4000000 in
theorem t_X4_usefulEnds {X : fX} {M : fM} {d : Nat} {w : Int} (hw : 0 ≤ w ∧ w < 4) : fC X d mX4_usefulEnds [.ref (xa X 39), .int (iv w)] M (QI fun r M' => M' = M ∧ r = useZ M w) := by
  refine fC.of (L := [_, _]) (by decide +kernel) rfl (Nat.le_of_ble_eq_true rfl) (fun Z hZ hR => ?_)
  refine f_aload_n hZ dX4_usefulEnds_0 rfl ?_
  refine gX4_30 hZ dX4_usefulEnds_1 ?_
  refine f_iload_n hZ dX4_usefulEnds_4 rfl ?_
  refine f_iconst hZ dX4_usefulEnds_5 ?_
  refine f_imul hZ dX4_usefulEnds_6 ?_
  refine f_iconst hZ dX4_usefulEnds_7 ?_
  refine f_iadd hZ dX4_usefulEnds_8 ?_
  refine f_iaload hZ dX4_usefulEnds_9 (by first | rfl | exact hC.t1 | exact hC.t2 | exact hC.t3 | exact hC.t4 | exact hC.t5) (by first | rfl | exact hC.l1 | exact hC.l2 | exact hC.l3 | exact hC.l4 | exact hC.l5) (by omega) (by omega) (fun r9 => ?_)
  refine f_aload_n hZ dX4_usefulEnds_10 rfl ?_
  refine gX4_30 hZ dX4_usefulEnds_11 ?_
  refine f_iload_n hZ dX4_usefulEnds_14 rfl ?_
  refine f_iconst hZ dX4_usefulEnds_15 ?_
  refine f_imul hZ dX4_usefulEnds_16 ?_
  refine f_iconst hZ dX4_usefulEnds_17 ?_
  refine f_iadd hZ dX4_usefulEnds_18 ?_
  refine f_iaload hZ dX4_usefulEnds_19 (by first | rfl | exact hC.t1 | exact hC.t2 | exact hC.t3 | exact hC.t4 | exact hC.t5) (by first | rfl | exact hC.l1 | exact hC.l2 | exact hC.l3 | exact hC.l4 | exact hC.l5) (by omega) (by omega) (fun r19 => ?_)
  refine f_ile (tgt := 27) hZ dX4_usefulEnds_20 rfl (by omega) (by omega) (fun h20 => ?_) (fun h20 => ?_)
  · refine f_iconst hZ dX4_usefulEnds_27 ?_
    exact f_retI hZ hR dX4_usefulEnds_28 rfl (by omega) (by refine ⟨rfl, ?_⟩; unfold useZ; first | (rw [if_pos (by omega)]; done) | (rw [if_neg (by omega)]; done))
  · refine f_iconst hZ dX4_usefulEnds_23 ?_
    refine f_goto (tgt := 28) hZ dX4_usefulEnds_24 rfl ?_
    exact f_retI hZ hR dX4_usefulEnds_28 rfl (by omega) (by refine ⟨rfl, ?_⟩; unfold useZ; first | (rw [if_pos (by omega)]; done) | (rw [if_neg (by omega)]; done))

abbrev wpP (M : fM) (dp f r : Int) : Prop := (r = 4 ∧ ∀ w, f ≤ w → w < 4 → ¬ 0 < M 43 (dp * 4 + w)) ∨ ((f ≤ r ∧ r < 4) ∧ 0 < M 43 (dp * 4 + r) ∧ ∀ w, f ≤ w → w < r → ¬ 0 < M 43 (dp * 4 + w))
set_option maxRecDepth 20000 in
set_option maxHeartbeats 4000000 in
theorem t_X4_withParts {X : fX} {M : fM} {d : Nat} {dp f : Int} (hdp : 0 ≤ dp ∧ dp ≤ 4) (hf : 0 ≤ f ∧ f ≤ 4) : fC X d mX4_withParts [.ref (xa X 39), .int (iv dp), .int (iv f)] M (QI fun r M' => M' = M ∧ wpP M dp f r) := by
  refine fC.of (L := [_, _, _, _]) (by decide +kernel) rfl (Nat.le_of_ble_eq_true rfl) (fun Z hZ hR => ?_)
  have loop : ∀ (m : Nat) (w : Int) , f ≤ w → w + m = 4 → (∀ i, f ≤ i → i < w → ¬ 0 < M 43 (dp * 4 + i)) → fG X mX4_withParts Z 2 [.ref (xa X 39), .int (iv dp), .int (iv f), .int (iv w)] [] (M) := by
    intro m
    induction m with
    | zero =>
      intro w  h0 hw hinv
      refine f_iload_n hZ dX4_withParts_2 rfl ?_
      refine f_iconst hZ dX4_withParts_3 ?_
      refine f_ige (tgt := 28) hZ dX4_withParts_4 rfl (by omega) (by omega) (fun h4 => ?_) (fun h4 => ?_)
      · refine f_iconst hZ dX4_withParts_28 ?_
        exact f_retI hZ hR dX4_withParts_29 rfl (by omega) (by exact ⟨rfl, Or.inl ⟨rfl, fun i h1 h2 => hinv i h1 (by omega)⟩⟩)
      · exfalso; omega
    | succ m ih =>
      intro w  h0 hw hinv
      refine f_iload_n hZ dX4_withParts_2 rfl ?_
      refine f_iconst hZ dX4_withParts_3 ?_
      refine f_ige (tgt := 28) hZ dX4_withParts_4 rfl (by omega) (by omega) (fun h4 => ?_) (fun h4 => ?_)
      · exfalso; omega
      · refine f_aload_n hZ dX4_withParts_7 rfl ?_
        refine gX4_21 hZ dX4_withParts_8 ?_
        refine f_iload_n hZ dX4_withParts_11 rfl ?_
        refine f_iconst hZ dX4_withParts_12 ?_
        refine f_imul hZ dX4_withParts_13 ?_
        refine f_iload_n hZ dX4_withParts_14 rfl ?_
        refine f_iadd hZ dX4_withParts_15 ?_
        refine f_iaload hZ dX4_withParts_16 (by first | rfl | exact hC.t1 | exact hC.t2 | exact hC.t3 | exact hC.t4 | exact hC.t5) (by first | rfl | exact hC.l1 | exact hC.l2 | exact hC.l3 | exact hC.l4 | exact hC.l5) (by omega) (by omega) (fun r16 => ?_)
        refine f_le (tgt := 22) hZ dX4_withParts_17 rfl (by omega) (fun h17 => ?_) (fun h17 => ?_)
        · refine f_iinc (L' := [_, _, _, _]) hZ dX4_withParts_22 rfl rfl ?_
          refine f_goto (tgt := 2) hZ dX4_withParts_25 rfl ?_
          exact ih (w + 1) (by omega) (by omega) (fun i h1 h2 => by
            by_cases hi : i = w
            · subst hi; omega
            · exact hinv i h1 (by omega))
        · refine f_iload_n hZ dX4_withParts_20 rfl ?_
          exact f_retI hZ hR dX4_withParts_21 rfl (by omega) (by exact ⟨rfl, Or.inr ⟨by omega, by omega, fun i h1 h2 => hinv i h1 h2⟩⟩)
  refine f_iload_n hZ dX4_withParts_0 rfl ?_
  refine f_istore_n (L' := [_, _, _, _]) hZ dX4_withParts_1 rfl rfl ?_
  exact loop (4 - f).toNat f (by omega) (by omega) (fun i h1 h2 => by omega)

theorem tS_p {M : fM} {dp t e c f w : Int} {xs : List Int} (h : 0 ≤ w ∧ w < 4) : sp (tS M dp t e c f xs) w = M 43 (dp * 4 + w) := cut4_in (f := fun w => M 43 (dp * 4 + w)) h
theorem tS_l {M : fM} {dp t e c f w : Int} {xs : List Int} (h : 0 ≤ w ∧ w < 4) : sl (tS M dp t e c f xs) w = M 44 (dp * 4 + w) := cut4_in (f := fun w => M 44 (dp * 4 + w)) h
theorem tS_spd {M : fM} {dp t e c f w : Int} {xs : List Int} (h : 0 ≤ w ∧ w < 4) : spd (tV M) (tS M dp t e c f xs) w = if M 44 (dp * 4 + w) = 0 then 0 else M 46 (w * 3 + M 44 (dp * 4 + w)) := by unfold spd; rw [tS_l h]; rfl
theorem tmF_ap {v : Int → Int → Int} {s : sS} {w acc : Int} : tmF v s w acc = if 0 < spd v s w then (if acc = 0 ∨ lastZ (sp s w) (spd v s w) < acc then lastZ (sp s w) (spd v s w) else acc) else acc := rfl
theorem tm_rg {M : fM} {dp : Int} (hR : tR M dp) {w : Int} (h0 : 0 ≤ w) (h4 : w ≤ 4) : 0 ≤ itZ (tmF (tV M) (tS M dp 0 0 0 0 [])) 0 w ∧ itZ (tmF (tV M) (tS M dp 0 0 0 0 [])) 0 w ≤ 99 :=
  itZ_inv (fun _ x => 0 ≤ x ∧ x ≤ 99) (by omega) (fun k x k0 k1 hx => by
    unfold tmF
    have hq := hR.1 k k0 k1
    rw [tS_p ⟨k0, k1⟩]
    split
    · next h =>
      have := lastZ_rg (P := M 43 (dp * 4 + k)) (F := spd (tV M) (tS M dp 0 0 0 0 []) k) (by omega) (by omega)
      split <;> omega
    · exact hx) w h0 h4
set_option maxRecDepth 20000 in
set_option maxHeartbeats 4000000 in
theorem t_X4_moments {X : fX} {M : fM} {d : Nat} {dp : Int} (hdp : 0 ≤ dp ∧ dp ≤ 4) (hT : tR M dp) : fC X d mX4_momentsToEvent [.ref (xa X 39), .int (iv dp)] M (QI fun r M' => M' = M ∧ r = tmZ (tV M) (tS M dp 0 0 0 0 [])) := by
  refine fC.of (L := [_, _, _, _, _, _, _]) (by decide +kernel) rfl (Nat.le_of_ble_eq_true rfl) (fun Z hZ hR => ?_)
  have loop : ∀ (m : Nat) (w : Int) , 0 ≤ w → w + m = 4 →  fG X mX4_momentsToEvent Z 9 [.ref (xa X 39), .int (iv dp), .int (iv (dp * 4)), .int (iv (itZ (tmF (tV M) (tS M dp 0 0 0 0 [])) 0 w)), .int (iv w), .null, .null] [] (M) := by
    intro m
    induction m with
    | zero =>
      intro w  h0 hw 
      have hOw := tm_rg hT h0 (by omega : w ≤ 4)
      refine f_iload hZ dX4_momentsToEvent_9 rfl ?_
      refine f_iconst hZ dX4_momentsToEvent_11 ?_
      refine f_ige (tgt := 99) hZ dX4_momentsToEvent_12 rfl (by first | omega | exact rg_tdiv (by omega) (by omega)) (by first | omega | exact rg_tdiv (by omega) (by omega)) (fun h12 => ?_) (fun h12 => ?_)
      · refine f_iload_n hZ dX4_momentsToEvent_99 rfl ?_
        exact f_retI hZ hR dX4_momentsToEvent_100 rfl (by first | omega | exact rg_tdiv (by omega) (by omega)) (by have hwe : w = 4 := (by omega); subst hwe; exact ⟨rfl, rfl⟩)
      · exfalso; omega
    | succ m ih =>
      intro w  h0 hw 
      have hOw := tm_rg hT h0 (by omega : w ≤ 4)
      refine f_iload hZ dX4_momentsToEvent_9 rfl ?_
      refine f_iconst hZ dX4_momentsToEvent_11 ?_
      refine f_ige (tgt := 99) hZ dX4_momentsToEvent_12 rfl (by first | omega | exact rg_tdiv (by omega) (by omega)) (by first | omega | exact rg_tdiv (by omega) (by omega)) (fun h12 => ?_) (fun h12 => ?_)
      · exfalso; omega
      · have hq := hT.1 w (by omega) (by omega)
        have hq6 := hT.2 (w * 3 + M 44 (dp * 4 + w)) (by omega) (by omega)
        refine f_aload_n hZ dX4_momentsToEvent_15 rfl ?_
        refine gX4_24 hZ dX4_momentsToEvent_16 ?_
        refine f_iload_n hZ dX4_momentsToEvent_19 rfl ?_
        refine f_iload hZ dX4_momentsToEvent_20 rfl ?_
        refine f_iadd hZ dX4_momentsToEvent_22 ?_
        refine f_iaload hZ dX4_momentsToEvent_23 (by first | rfl | exact hC.t1 | exact hC.t2 | exact hC.t3 | exact hC.t4 | exact hC.t5) (by first | rfl | exact hC.l1 | exact hC.l2 | exact hC.l3 | exact hC.l4 | exact hC.l5) (by first | omega | exact rg_tdiv (by omega) (by omega)) (by first | omega | exact rg_tdiv (by omega) (by omega)) (fun r23 => ?_)
        refine f_ne (tgt := 31) hZ dX4_momentsToEvent_24 rfl (by first | omega | exact rg_tdiv (by omega) (by omega)) (fun h24 => ?_) (fun h24 => ?_)
        · refine f_aload_n hZ dX4_momentsToEvent_31 rfl ?_
          refine gX4_30 hZ dX4_momentsToEvent_32 ?_
          refine f_iload hZ dX4_momentsToEvent_35 rfl ?_
          refine f_iconst hZ dX4_momentsToEvent_37 ?_
          refine f_imul hZ dX4_momentsToEvent_38 ?_
          refine f_aload_n hZ dX4_momentsToEvent_39 rfl ?_
          refine gX4_24 hZ dX4_momentsToEvent_40 ?_
          refine f_iload_n hZ dX4_momentsToEvent_43 rfl ?_
          refine f_iload hZ dX4_momentsToEvent_44 rfl ?_
          refine f_iadd hZ dX4_momentsToEvent_46 ?_
          refine f_iaload hZ dX4_momentsToEvent_47 (by first | rfl | exact hC.t1 | exact hC.t2 | exact hC.t3 | exact hC.t4 | exact hC.t5) (by first | rfl | exact hC.l1 | exact hC.l2 | exact hC.l3 | exact hC.l4 | exact hC.l5) (by first | omega | exact rg_tdiv (by omega) (by omega)) (by first | omega | exact rg_tdiv (by omega) (by omega)) (fun r47 => ?_)
          refine f_iadd hZ dX4_momentsToEvent_48 ?_
          refine f_iaload hZ dX4_momentsToEvent_49 (by first | rfl | exact hC.t1 | exact hC.t2 | exact hC.t3 | exact hC.t4 | exact hC.t5) (by first | rfl | exact hC.l1 | exact hC.l2 | exact hC.l3 | exact hC.l4 | exact hC.l5) (by first | omega | exact rg_tdiv (by omega) (by omega)) (by first | omega | exact rg_tdiv (by omega) (by omega)) (fun r49 => ?_)
          refine f_nm (fun s5 es5 => ?_)
          refine f_istore (L' := [_, _, _, _, _, _, _]) hZ dX4_momentsToEvent_50 rfl rfl ?_
          have hsp : spd (tV M) (tS M dp 0 0 0 0 []) w = s5 := by rw [tS_spd ⟨h0, by omega⟩, es5]; first | rw [if_pos (by omega)] | rw [if_neg (by omega)]
          refine f_iload hZ dX4_momentsToEvent_52 rfl ?_
          refine f_le (tgt := 93) hZ dX4_momentsToEvent_54 rfl (by first | omega | exact rg_tdiv (by omega) (by omega)) (fun h54 => ?_) (fun h54 => ?_)
          · refine f_iinc (L' := [_, _, _, _, _, _, _]) hZ dX4_momentsToEvent_93 rfl rfl ?_
            refine f_goto (tgt := 9) hZ dX4_momentsToEvent_96 rfl ?_
            refine f_forget (L' := [_, _, _, _, _, .null, .null]) ⟨Or.inl rfl, Or.inl rfl, Or.inl rfl, Or.inl rfl, Or.inl rfl, Or.inr rfl, Or.inr rfl, trivial⟩ ?_
            have hh := ih (w + 1) (by omega) (by omega)
            rw [itZ_succ _ _ h0] at hh
            first
              | (rw [show tmF (tV M) (tS M dp 0 0 0 0 []) w (itZ (tmF (tV M) (tS M dp 0 0 0 0 [])) 0 w) = itZ (tmF (tV M) (tS M dp 0 0 0 0 [])) 0 w from by rw [tmF_ap, hsp, if_neg (by omega)]] at hh; exact hh)
              | (rw [show tmF (tV M) (tS M dp 0 0 0 0 []) w (itZ (tmF (tV M) (tS M dp 0 0 0 0 [])) 0 w) = lastZ (M 43 (dp * 4 + w)) s5 from by rw [tmF_ap, hsp, if_pos (by omega), tS_p ⟨h0, by omega⟩, if_pos (by omega)]] at hh; rw [← hl6] at hh; exact hh)
              | (rw [show tmF (tV M) (tS M dp 0 0 0 0 []) w (itZ (tmF (tV M) (tS M dp 0 0 0 0 [])) 0 w) = itZ (tmF (tV M) (tS M dp 0 0 0 0 [])) 0 w from by rw [tmF_ap, hsp, if_pos (by omega), tS_p ⟨h0, by omega⟩, if_neg (by omega)]] at hh; exact hh)
          · refine f_aload_n hZ dX4_momentsToEvent_57 rfl ?_
            refine gX4_21 hZ dX4_momentsToEvent_58 ?_
            refine f_iload_n hZ dX4_momentsToEvent_61 rfl ?_
            refine f_iload hZ dX4_momentsToEvent_62 rfl ?_
            refine f_iadd hZ dX4_momentsToEvent_64 ?_
            refine f_iaload hZ dX4_momentsToEvent_65 (by first | rfl | exact hC.t1 | exact hC.t2 | exact hC.t3 | exact hC.t4 | exact hC.t5) (by first | rfl | exact hC.l1 | exact hC.l2 | exact hC.l3 | exact hC.l4 | exact hC.l5) (by first | omega | exact rg_tdiv (by omega) (by omega)) (by first | omega | exact rg_tdiv (by omega) (by omega)) (fun r65 => ?_)
            refine f_iload hZ dX4_momentsToEvent_66 rfl ?_
            refine f_iadd hZ dX4_momentsToEvent_68 ?_
            refine f_iconst hZ dX4_momentsToEvent_69 ?_
            refine f_isub hZ dX4_momentsToEvent_70 ?_
            refine f_iload hZ dX4_momentsToEvent_71 rfl ?_
            refine f_idiv hZ dX4_momentsToEvent_73 (by first | omega | exact rg_tdiv (by omega) (by omega)) (by first | omega | exact rg_tdiv (by omega) (by omega)) (by first | omega | exact rg_tdiv (by omega) (by omega)) (by first | omega | exact rg_tdiv (by omega) (by omega)) ?_
            refine f_nm (fun x6 ex6 => ?_)
            refine f_istore (L' := [_, _, _, _, _, _, _]) hZ dX4_momentsToEvent_74 rfl rfl ?_
            have hl6 : x6 = lastZ (M 43 (dp * 4 + w)) s5 := ex6
            have hlr := lastZ_rg (P := M 43 (dp * 4 + w)) (F := s5) (by omega) (by omega)
            refine f_iload_n hZ dX4_momentsToEvent_76 rfl ?_
            refine f_eq (tgt := 86) hZ dX4_momentsToEvent_77 rfl (by first | omega | exact rg_tdiv (by omega) (by omega)) (fun h77 => ?_) (fun h77 => ?_)
            · refine f_iload hZ dX4_momentsToEvent_86 rfl ?_
              refine f_goto (tgt := 92) hZ dX4_momentsToEvent_88 rfl ?_
              refine f_istore_n (L' := [_, _, _, _, _, _, _]) hZ dX4_momentsToEvent_92 rfl rfl ?_
              refine f_iinc (L' := [_, _, _, _, _, _, _]) hZ dX4_momentsToEvent_93 rfl rfl ?_
              refine f_goto (tgt := 9) hZ dX4_momentsToEvent_96 rfl ?_
              refine f_forget (L' := [_, _, _, _, _, .null, .null]) ⟨Or.inl rfl, Or.inl rfl, Or.inl rfl, Or.inl rfl, Or.inl rfl, Or.inr rfl, Or.inr rfl, trivial⟩ ?_
              have hh := ih (w + 1) (by omega) (by omega)
              rw [itZ_succ _ _ h0] at hh
              first
                | (rw [show tmF (tV M) (tS M dp 0 0 0 0 []) w (itZ (tmF (tV M) (tS M dp 0 0 0 0 [])) 0 w) = itZ (tmF (tV M) (tS M dp 0 0 0 0 [])) 0 w from by rw [tmF_ap, hsp, if_neg (by omega)]] at hh; exact hh)
                | (rw [show tmF (tV M) (tS M dp 0 0 0 0 []) w (itZ (tmF (tV M) (tS M dp 0 0 0 0 [])) 0 w) = lastZ (M 43 (dp * 4 + w)) s5 from by rw [tmF_ap, hsp, if_pos (by omega), tS_p ⟨h0, by omega⟩, if_pos (by omega)]] at hh; rw [← hl6] at hh; exact hh)
                | (rw [show tmF (tV M) (tS M dp 0 0 0 0 []) w (itZ (tmF (tV M) (tS M dp 0 0 0 0 [])) 0 w) = itZ (tmF (tV M) (tS M dp 0 0 0 0 [])) 0 w from by rw [tmF_ap, hsp, if_pos (by omega), tS_p ⟨h0, by omega⟩, if_neg (by omega)]] at hh; exact hh)
            · refine f_iload hZ dX4_momentsToEvent_80 rfl ?_
              refine f_iload_n hZ dX4_momentsToEvent_82 rfl ?_
              refine f_ige (tgt := 91) hZ dX4_momentsToEvent_83 rfl (by first | omega | exact rg_tdiv (by omega) (by omega)) (by first | omega | exact rg_tdiv (by omega) (by omega)) (fun h83 => ?_) (fun h83 => ?_)
              · refine f_iload_n hZ dX4_momentsToEvent_91 rfl ?_
                refine f_istore_n (L' := [_, _, _, _, _, _, _]) hZ dX4_momentsToEvent_92 rfl rfl ?_
                refine f_iinc (L' := [_, _, _, _, _, _, _]) hZ dX4_momentsToEvent_93 rfl rfl ?_
                refine f_goto (tgt := 9) hZ dX4_momentsToEvent_96 rfl ?_
                refine f_forget (L' := [_, _, _, _, _, .null, .null]) ⟨Or.inl rfl, Or.inl rfl, Or.inl rfl, Or.inl rfl, Or.inl rfl, Or.inr rfl, Or.inr rfl, trivial⟩ ?_
                have hh := ih (w + 1) (by omega) (by omega)
                rw [itZ_succ _ _ h0] at hh
                first
                  | (rw [show tmF (tV M) (tS M dp 0 0 0 0 []) w (itZ (tmF (tV M) (tS M dp 0 0 0 0 [])) 0 w) = itZ (tmF (tV M) (tS M dp 0 0 0 0 [])) 0 w from by rw [tmF_ap, hsp, if_neg (by omega)]] at hh; exact hh)
                  | (rw [show tmF (tV M) (tS M dp 0 0 0 0 []) w (itZ (tmF (tV M) (tS M dp 0 0 0 0 [])) 0 w) = lastZ (M 43 (dp * 4 + w)) s5 from by rw [tmF_ap, hsp, if_pos (by omega), tS_p ⟨h0, by omega⟩, if_pos (by omega)]] at hh; rw [← hl6] at hh; exact hh)
                  | (rw [show tmF (tV M) (tS M dp 0 0 0 0 []) w (itZ (tmF (tV M) (tS M dp 0 0 0 0 [])) 0 w) = itZ (tmF (tV M) (tS M dp 0 0 0 0 [])) 0 w from by rw [tmF_ap, hsp, if_pos (by omega), tS_p ⟨h0, by omega⟩, if_neg (by omega)]] at hh; exact hh)
              · refine f_iload hZ dX4_momentsToEvent_86 rfl ?_
                refine f_goto (tgt := 92) hZ dX4_momentsToEvent_88 rfl ?_
                refine f_istore_n (L' := [_, _, _, _, _, _, _]) hZ dX4_momentsToEvent_92 rfl rfl ?_
                refine f_iinc (L' := [_, _, _, _, _, _, _]) hZ dX4_momentsToEvent_93 rfl rfl ?_
                refine f_goto (tgt := 9) hZ dX4_momentsToEvent_96 rfl ?_
                refine f_forget (L' := [_, _, _, _, _, .null, .null]) ⟨Or.inl rfl, Or.inl rfl, Or.inl rfl, Or.inl rfl, Or.inl rfl, Or.inr rfl, Or.inr rfl, trivial⟩ ?_
                have hh := ih (w + 1) (by omega) (by omega)
                rw [itZ_succ _ _ h0] at hh
                first
                  | (rw [show tmF (tV M) (tS M dp 0 0 0 0 []) w (itZ (tmF (tV M) (tS M dp 0 0 0 0 [])) 0 w) = itZ (tmF (tV M) (tS M dp 0 0 0 0 [])) 0 w from by rw [tmF_ap, hsp, if_neg (by omega)]] at hh; exact hh)
                  | (rw [show tmF (tV M) (tS M dp 0 0 0 0 []) w (itZ (tmF (tV M) (tS M dp 0 0 0 0 [])) 0 w) = lastZ (M 43 (dp * 4 + w)) s5 from by rw [tmF_ap, hsp, if_pos (by omega), tS_p ⟨h0, by omega⟩, if_pos (by omega)]] at hh; rw [← hl6] at hh; exact hh)
                  | (rw [show tmF (tV M) (tS M dp 0 0 0 0 []) w (itZ (tmF (tV M) (tS M dp 0 0 0 0 [])) 0 w) = itZ (tmF (tV M) (tS M dp 0 0 0 0 [])) 0 w from by rw [tmF_ap, hsp, if_pos (by omega), tS_p ⟨h0, by omega⟩, if_neg (by omega)]] at hh; exact hh)
        · refine f_iconst hZ dX4_momentsToEvent_27 ?_
          refine f_goto (tgt := 50) hZ dX4_momentsToEvent_28 rfl ?_
          refine f_nm (fun s5 es5 => ?_)
          refine f_istore (L' := [_, _, _, _, _, _, _]) hZ dX4_momentsToEvent_50 rfl rfl ?_
          have hsp : spd (tV M) (tS M dp 0 0 0 0 []) w = s5 := by rw [tS_spd ⟨h0, by omega⟩, es5]; first | rw [if_pos (by omega)] | rw [if_neg (by omega)]
          refine f_iload hZ dX4_momentsToEvent_52 rfl ?_
          refine f_le (tgt := 93) hZ dX4_momentsToEvent_54 rfl (by first | omega | exact rg_tdiv (by omega) (by omega)) (fun h54 => ?_) (fun h54 => ?_)
          · refine f_iinc (L' := [_, _, _, _, _, _, _]) hZ dX4_momentsToEvent_93 rfl rfl ?_
            refine f_goto (tgt := 9) hZ dX4_momentsToEvent_96 rfl ?_
            refine f_forget (L' := [_, _, _, _, _, .null, .null]) ⟨Or.inl rfl, Or.inl rfl, Or.inl rfl, Or.inl rfl, Or.inl rfl, Or.inr rfl, Or.inr rfl, trivial⟩ ?_
            have hh := ih (w + 1) (by omega) (by omega)
            rw [itZ_succ _ _ h0] at hh
            first
              | (rw [show tmF (tV M) (tS M dp 0 0 0 0 []) w (itZ (tmF (tV M) (tS M dp 0 0 0 0 [])) 0 w) = itZ (tmF (tV M) (tS M dp 0 0 0 0 [])) 0 w from by rw [tmF_ap, hsp, if_neg (by omega)]] at hh; exact hh)
              | (rw [show tmF (tV M) (tS M dp 0 0 0 0 []) w (itZ (tmF (tV M) (tS M dp 0 0 0 0 [])) 0 w) = lastZ (M 43 (dp * 4 + w)) s5 from by rw [tmF_ap, hsp, if_pos (by omega), tS_p ⟨h0, by omega⟩, if_pos (by omega)]] at hh; rw [← hl6] at hh; exact hh)
              | (rw [show tmF (tV M) (tS M dp 0 0 0 0 []) w (itZ (tmF (tV M) (tS M dp 0 0 0 0 [])) 0 w) = itZ (tmF (tV M) (tS M dp 0 0 0 0 [])) 0 w from by rw [tmF_ap, hsp, if_pos (by omega), tS_p ⟨h0, by omega⟩, if_neg (by omega)]] at hh; exact hh)
          · exfalso; omega
  refine f_iload_n hZ dX4_momentsToEvent_0 rfl ?_
  refine f_iconst hZ dX4_momentsToEvent_1 ?_
  refine f_imul hZ dX4_momentsToEvent_2 ?_
  refine f_istore_n (L' := [_, _, _, _, _, _, _]) hZ dX4_momentsToEvent_3 rfl rfl ?_
  refine f_iconst hZ dX4_momentsToEvent_4 ?_
  refine f_istore_n (L' := [_, _, _, _, _, _, _]) hZ dX4_momentsToEvent_5 rfl rfl ?_
  refine f_iconst hZ dX4_momentsToEvent_6 ?_
  refine f_istore (L' := [_, _, _, _, _, _, _]) hZ dX4_momentsToEvent_7 rfl rfl ?_
  exact loop 4 0 (by omega) (by omega)

def anyF (v : Int → Int → Int) (s : sS) (t : Int) : Int → Int → Int := fun k acc => if 0 < leftZ v s t k then 1 else acc
def bdM (M : fM) (dp t k : Int) : fM := fun c i => if (dp * 4 + 4 ≤ i ∧ i < dp * 4 + 4 + k) ∧ c = 43 then sp (sB (tV M) t (tS M dp 0 0 0 0 [])) (i - dp * 4 - 4) else if (dp * 4 + 4 ≤ i ∧ i < dp * 4 + 4 + k) ∧ c = 44 then sl (sB (tV M) t (tS M dp 0 0 0 0 [])) (i - dp * 4 - 4) else M c i
theorem bdM_0 {M : fM} {dp t : Int} : bdM M dp t 0 = M := by funext c i; unfold bdM; rw [if_neg (by omega), if_neg (by omega)]
theorem bdM_lo {M : fM} {dp t k i : Int} {c : Nat} (h : i < dp * 4 + 4) : bdM M dp t k c i = M c i := by unfold bdM; rw [if_neg (by omega), if_neg (by omega)]
theorem bdM_ne {M : fM} {dp t k : Int} {c : Nat} (h : c ≠ 43 ∧ c ≠ 44) : bdM M dp t k c = M c := by funext i; unfold bdM; rw [if_neg (by omega), if_neg (by omega)]
theorem bdM_st {M : fM} {dp t k a b : Int} (h0 : 0 ≤ k) (ha : a = sp (sB (tV M) t (tS M dp 0 0 0 0 [])) k) (hb : b = sl (sB (tV M) t (tS M dp 0 0 0 0 [])) k) : up (up (bdM M dp t k) 43 (dp * 4 + 4 + k) a) 44 (dp * 4 + 4 + k) b = bdM M dp t (k + 1) := by
  subst ha; subst hb
  funext c i
  simp only [up_app]
  unfold bdM
  by_cases hi : i = dp * 4 + 4 + k
  · have e : i - dp * 4 - 4 = k := by omega
    rw [e]
    by_cases h3 : c = 43
    · subst h3; rw [if_neg (by omega), if_pos (by omega), if_pos (by omega)]
    · by_cases h4 : c = 44
      · subst h4; rw [if_pos (by omega), if_neg (by omega), if_pos (by omega)]
      · rw [if_neg (by omega), if_neg (by omega), if_neg (by omega), if_neg (by omega), if_neg (by omega), if_neg (by omega)]
  · rw [if_neg (by omega), if_neg (by omega)]
    by_cases h3 : (dp * 4 + 4 ≤ i ∧ i < dp * 4 + 4 + k) ∧ c = 43
    · rw [if_pos h3, if_pos (by omega)]
    · rw [if_neg h3]
      by_cases h4 : (dp * 4 + 4 ≤ i ∧ i < dp * 4 + 4 + k) ∧ c = 44
      · rw [if_pos h4, if_neg (by omega), if_pos (by omega)]
      · rw [if_neg h4, if_neg (by omega), if_neg (by omega)]
theorem tv_rg {F t : Int} (hF : 0 ≤ F ∧ F ≤ 6) (ht : 0 ≤ t ∧ t ≤ 99) : 0 ≤ F * t ∧ F * t ≤ 594 := by
  refine ⟨Int.mul_nonneg hF.1 ht.1, ?_⟩
  have h1 : F * t ≤ 6 * t := Int.mul_le_mul_of_nonneg_right hF.2 ht.1
  omega
set_option maxRecDepth 20000 in
set_option maxHeartbeats 4000000 in
theorem t_X4_burnDown {X : fX} {M : fM} {d : Nat} {dp t : Int} (hdp : 0 ≤ dp ∧ dp ≤ 3) (ht : 0 ≤ t ∧ t ≤ 99) (hT : tR M dp) : fC X d mX4_burnDown [.ref (xa X 39), .int (iv dp), .int (iv t)] M (QI fun r M' => M' = bdM M dp t 4 ∧ r = itZ (anyF (tV M) (tS M dp 0 0 0 0 []) t) 0 4) := by
  refine fC.of (L := [_, _, _, _, _, _, _, _]) (by decide +kernel) rfl (Nat.le_of_ble_eq_true rfl) (fun Z hZ hR => ?_)
  have loop : ∀ (m : Nat) (w : Int) , 0 ≤ w → w + m = 4 →  fG X mX4_burnDown Z 10 [.ref (xa X 39), .int (iv dp), .int (iv t), .int (iv (dp * 4)), .int (iv (itZ (anyF (tV M) (tS M dp 0 0 0 0 []) t) 0 w)), .int (iv w), .null, .null] [] (bdM M dp t w) := by
    intro m
    induction m with
    | zero =>
      intro w  h0 hw 
      have hOw : itZ (anyF (tV M) (tS M dp 0 0 0 0 []) t) 0 w = 0 ∨ itZ (anyF (tV M) (tS M dp 0 0 0 0 []) t) 0 w = 1 := itZ_inv (fun _ x => x = 0 ∨ x = 1) (by omega) (fun k x _ _ hx => by unfold anyF; split <;> omega) w h0 (by omega : w ≤ 4)
      refine f_iload hZ dX4_burnDown_10 rfl ?_
      refine f_iconst hZ dX4_burnDown_12 ?_
      refine f_ige (tgt := 128) hZ dX4_burnDown_13 rfl (by omega) (by omega) (fun h13 => ?_) (fun h13 => ?_)
      · refine f_iload hZ dX4_burnDown_128 rfl ?_
        exact f_retZ hZ hR dX4_burnDown_130 rfl (by omega) (by have hwe : w = 4 := (by omega); subst hwe; exact ⟨rfl, rfl⟩)
      · exfalso; omega
    | succ m ih =>
      intro w  h0 hw 
      have hOw : itZ (anyF (tV M) (tS M dp 0 0 0 0 []) t) 0 w = 0 ∨ itZ (anyF (tV M) (tS M dp 0 0 0 0 []) t) 0 w = 1 := itZ_inv (fun _ x => x = 0 ∨ x = 1) (by omega) (fun k x _ _ hx => by unfold anyF; split <;> omega) w h0 (by omega : w ≤ 4)
      refine f_iload hZ dX4_burnDown_10 rfl ?_
      refine f_iconst hZ dX4_burnDown_12 ?_
      refine f_ige (tgt := 128) hZ dX4_burnDown_13 rfl (by omega) (by omega) (fun h13 => ?_) (fun h13 => ?_)
      · exfalso; omega
      · have hq := hT.1 w (by omega) (by omega)
        have hq6 := hT.2 (w * 3 + M 44 (dp * 4 + w)) (by omega) (by omega)
        have hpr := tv_rg (t := t) hq6 ht
        have hcm : t * M 46 (w * 3 + M 44 (dp * 4 + w)) = M 46 (w * 3 + M 44 (dp * 4 + w)) * t := Int.mul_comm _ _
        refine f_aload_n hZ dX4_burnDown_16 rfl ?_
        refine gX4_24 hZ dX4_burnDown_17 ?_
        refine f_iload_n hZ dX4_burnDown_20 rfl ?_
        refine f_iload hZ dX4_burnDown_21 rfl ?_
        refine f_iadd hZ dX4_burnDown_23 ?_
        refine f_iaload hZ dX4_burnDown_24 (by first | rfl | exact hC.t1 | exact hC.t2 | exact hC.t3 | exact hC.t4 | exact hC.t5) (by first | rfl | exact hC.l1 | exact hC.l2 | exact hC.l3 | exact hC.l4 | exact hC.l5) (by omega) (by omega) (fun r24 => ?_)
        try simp only [bdM_lo (show dp * 4 + w < dp * 4 + 4 by omega), bdM_ne (show (46 : Nat) ≠ 43 ∧ (46 : Nat) ≠ 44 by decide)] at r24 ⊢
        refine f_istore (L' := [_, _, _, _, _, _, _, _]) hZ dX4_burnDown_25 rfl rfl ?_
        refine f_iload hZ dX4_burnDown_27 rfl ?_
        refine f_ne (tgt := 44) hZ dX4_burnDown_29 rfl (by omega) (fun h29 => ?_) (fun h29 => ?_)
        · refine f_aload_n hZ dX4_burnDown_44 rfl ?_
          refine gX4_21 hZ dX4_burnDown_45 ?_
          refine f_iload_n hZ dX4_burnDown_48 rfl ?_
          refine f_iload hZ dX4_burnDown_49 rfl ?_
          refine f_iadd hZ dX4_burnDown_51 ?_
          refine f_iaload hZ dX4_burnDown_52 (by first | rfl | exact hC.t1 | exact hC.t2 | exact hC.t3 | exact hC.t4 | exact hC.t5) (by first | rfl | exact hC.l1 | exact hC.l2 | exact hC.l3 | exact hC.l4 | exact hC.l5) (by omega) (by omega) (fun r52 => ?_)
          try simp only [bdM_lo (show dp * 4 + w < dp * 4 + 4 by omega), bdM_ne (show (46 : Nat) ≠ 43 ∧ (46 : Nat) ≠ 44 by decide)] at r52 ⊢
          refine f_iload_n hZ dX4_burnDown_53 rfl ?_
          refine f_aload_n hZ dX4_burnDown_54 rfl ?_
          refine gX4_30 hZ dX4_burnDown_55 ?_
          refine f_iload hZ dX4_burnDown_58 rfl ?_
          refine f_iconst hZ dX4_burnDown_60 ?_
          refine f_imul hZ dX4_burnDown_61 ?_
          refine f_iload hZ dX4_burnDown_62 rfl ?_
          refine f_iadd hZ dX4_burnDown_64 ?_
          refine f_iaload hZ dX4_burnDown_65 (by first | rfl | exact hC.t1 | exact hC.t2 | exact hC.t3 | exact hC.t4 | exact hC.t5) (by first | rfl | exact hC.l1 | exact hC.l2 | exact hC.l3 | exact hC.l4 | exact hC.l5) (by omega) (by omega) (fun r65 => ?_)
          try simp only [bdM_lo (show dp * 4 + w < dp * 4 + 4 by omega), bdM_ne (show (46 : Nat) ≠ 43 ∧ (46 : Nat) ≠ 44 by decide)] at r65 ⊢
          refine f_imul hZ dX4_burnDown_66 ?_
          refine f_isub hZ dX4_burnDown_67 ?_
          refine f_nm (fun l7 el7 => ?_)
          refine f_istore (L' := [_, _, _, _, _, _, _, _]) hZ dX4_burnDown_68 rfl rfl ?_
          have hlz : leftZ (tV M) (tS M dp 0 0 0 0 []) t w = l7 := by
            unfold leftZ
            rw [tS_p ⟨h0, by omega⟩, tS_spd ⟨h0, by omega⟩, el7]
            first | (rw [if_pos (by omega)]; omega) | (rw [if_neg (by omega)]; omega)
          refine f_aload_n hZ dX4_burnDown_70 rfl ?_
          refine gX4_21 hZ dX4_burnDown_71 ?_
          refine f_iload_n hZ dX4_burnDown_74 rfl ?_
          refine f_iconst hZ dX4_burnDown_75 ?_
          refine f_iadd hZ dX4_burnDown_76 ?_
          refine f_iload hZ dX4_burnDown_77 rfl ?_
          refine f_iadd hZ dX4_burnDown_79 ?_
          refine f_iload hZ dX4_burnDown_80 rfl ?_
          refine f_le (tgt := 90) hZ dX4_burnDown_82 rfl (by omega) (fun h82 => ?_) (fun h82 => ?_)
          · refine f_iconst hZ dX4_burnDown_90 ?_
            refine f_iastore hZ dX4_burnDown_91 (by first | rfl | exact hC.t1 | exact hC.t2 | exact hC.t3 | exact hC.t4 | exact hC.t5) (by first | rfl | exact hC.l1 | exact hC.l2 | exact hC.l3 | exact hC.l4 | exact hC.l5) (by omega) (by omega) (by omega) ?_
            refine f_aload_n hZ dX4_burnDown_92 rfl ?_
            refine gX4_24 hZ dX4_burnDown_93 ?_
            refine f_iload_n hZ dX4_burnDown_96 rfl ?_
            refine f_iconst hZ dX4_burnDown_97 ?_
            refine f_iadd hZ dX4_burnDown_98 ?_
            refine f_iload hZ dX4_burnDown_99 rfl ?_
            refine f_iadd hZ dX4_burnDown_101 ?_
            refine f_iload hZ dX4_burnDown_102 rfl ?_
            refine f_le (tgt := 112) hZ dX4_burnDown_104 rfl (by omega) (fun h104 => ?_) (fun h104 => ?_)
            · refine f_iconst hZ dX4_burnDown_112 ?_
              refine f_iastore hZ dX4_burnDown_113 (by first | rfl | exact hC.t1 | exact hC.t2 | exact hC.t3 | exact hC.t4 | exact hC.t5) (by first | rfl | exact hC.l1 | exact hC.l2 | exact hC.l3 | exact hC.l4 | exact hC.l5) (by omega) (by omega) (by omega) ?_
              refine f_iload hZ dX4_burnDown_114 rfl ?_
              refine f_le (tgt := 122) hZ dX4_burnDown_116 rfl (by omega) (fun h116 => ?_) (fun h116 => ?_)
              · refine f_iinc (L' := [_, _, _, _, _, _, _, _]) hZ dX4_burnDown_122 rfl rfl ?_
                refine f_goto (tgt := 10) hZ dX4_burnDown_125 rfl ?_
                refine f_forget (L' := [_, _, _, _, _, _, .null, .null]) ⟨Or.inl rfl, Or.inl rfl, Or.inl rfl, Or.inl rfl, Or.inl rfl, Or.inl rfl, Or.inr rfl, Or.inr rfl, trivial⟩ ?_
                have hh := ih (w + 1) (by omega) (by omega)
                rw [itZ_succ _ _ h0] at hh
                first
                  | (exfalso; omega)
                  | (rw [show anyF (tV M) (tS M dp 0 0 0 0 []) t w (itZ (anyF (tV M) (tS M dp 0 0 0 0 []) t) 0 w) = 1 from if_pos (by omega), ← bdM_st h0 (a := l7) (b := M 44 (dp * 4 + w)) (by show _ = (if 0 < leftZ (tV M) (tS M dp 0 0 0 0 []) t w then leftZ (tV M) (tS M dp 0 0 0 0 []) t w else 0); rw [if_pos (by omega)]; omega) (by show _ = (if 0 < leftZ (tV M) (tS M dp 0 0 0 0 []) t w then _ else 0); rw [if_pos (by omega), tS_l ⟨h0, by omega⟩])] at hh; exact hh)
                  | (rw [show anyF (tV M) (tS M dp 0 0 0 0 []) t w (itZ (anyF (tV M) (tS M dp 0 0 0 0 []) t) 0 w) = itZ (anyF (tV M) (tS M dp 0 0 0 0 []) t) 0 w from if_neg (by omega), ← bdM_st h0 (a := 0) (b := 0) (by show _ = (if 0 < leftZ (tV M) (tS M dp 0 0 0 0 []) t w then _ else 0); rw [if_neg (by omega)]) (by show _ = (if 0 < leftZ (tV M) (tS M dp 0 0 0 0 []) t w then _ else 0); rw [if_neg (by omega)])] at hh; exact hh)
              · refine f_iconst hZ dX4_burnDown_119 ?_
                refine f_istore (L' := [_, _, _, _, _, _, _, _]) hZ dX4_burnDown_120 rfl rfl ?_
                refine f_iinc (L' := [_, _, _, _, _, _, _, _]) hZ dX4_burnDown_122 rfl rfl ?_
                refine f_goto (tgt := 10) hZ dX4_burnDown_125 rfl ?_
                refine f_forget (L' := [_, _, _, _, _, _, .null, .null]) ⟨Or.inl rfl, Or.inl rfl, Or.inl rfl, Or.inl rfl, Or.inl rfl, Or.inl rfl, Or.inr rfl, Or.inr rfl, trivial⟩ ?_
                have hh := ih (w + 1) (by omega) (by omega)
                rw [itZ_succ _ _ h0] at hh
                first
                  | (exfalso; omega)
                  | (rw [show anyF (tV M) (tS M dp 0 0 0 0 []) t w (itZ (anyF (tV M) (tS M dp 0 0 0 0 []) t) 0 w) = 1 from if_pos (by omega), ← bdM_st h0 (a := l7) (b := M 44 (dp * 4 + w)) (by show _ = (if 0 < leftZ (tV M) (tS M dp 0 0 0 0 []) t w then leftZ (tV M) (tS M dp 0 0 0 0 []) t w else 0); rw [if_pos (by omega)]; omega) (by show _ = (if 0 < leftZ (tV M) (tS M dp 0 0 0 0 []) t w then _ else 0); rw [if_pos (by omega), tS_l ⟨h0, by omega⟩])] at hh; exact hh)
                  | (rw [show anyF (tV M) (tS M dp 0 0 0 0 []) t w (itZ (anyF (tV M) (tS M dp 0 0 0 0 []) t) 0 w) = itZ (anyF (tV M) (tS M dp 0 0 0 0 []) t) 0 w from if_neg (by omega), ← bdM_st h0 (a := 0) (b := 0) (by show _ = (if 0 < leftZ (tV M) (tS M dp 0 0 0 0 []) t w then _ else 0); rw [if_neg (by omega)]) (by show _ = (if 0 < leftZ (tV M) (tS M dp 0 0 0 0 []) t w then _ else 0); rw [if_neg (by omega)])] at hh; exact hh)
            · refine f_iload hZ dX4_burnDown_107 rfl ?_
              refine f_goto (tgt := 113) hZ dX4_burnDown_109 rfl ?_
              refine f_iastore hZ dX4_burnDown_113 (by first | rfl | exact hC.t1 | exact hC.t2 | exact hC.t3 | exact hC.t4 | exact hC.t5) (by first | rfl | exact hC.l1 | exact hC.l2 | exact hC.l3 | exact hC.l4 | exact hC.l5) (by omega) (by omega) (by omega) ?_
              refine f_iload hZ dX4_burnDown_114 rfl ?_
              refine f_le (tgt := 122) hZ dX4_burnDown_116 rfl (by omega) (fun h116 => ?_) (fun h116 => ?_)
              · refine f_iinc (L' := [_, _, _, _, _, _, _, _]) hZ dX4_burnDown_122 rfl rfl ?_
                refine f_goto (tgt := 10) hZ dX4_burnDown_125 rfl ?_
                refine f_forget (L' := [_, _, _, _, _, _, .null, .null]) ⟨Or.inl rfl, Or.inl rfl, Or.inl rfl, Or.inl rfl, Or.inl rfl, Or.inl rfl, Or.inr rfl, Or.inr rfl, trivial⟩ ?_
                have hh := ih (w + 1) (by omega) (by omega)
                rw [itZ_succ _ _ h0] at hh
                first
                  | (exfalso; omega)
                  | (rw [show anyF (tV M) (tS M dp 0 0 0 0 []) t w (itZ (anyF (tV M) (tS M dp 0 0 0 0 []) t) 0 w) = 1 from if_pos (by omega), ← bdM_st h0 (a := l7) (b := M 44 (dp * 4 + w)) (by show _ = (if 0 < leftZ (tV M) (tS M dp 0 0 0 0 []) t w then leftZ (tV M) (tS M dp 0 0 0 0 []) t w else 0); rw [if_pos (by omega)]; omega) (by show _ = (if 0 < leftZ (tV M) (tS M dp 0 0 0 0 []) t w then _ else 0); rw [if_pos (by omega), tS_l ⟨h0, by omega⟩])] at hh; exact hh)
                  | (rw [show anyF (tV M) (tS M dp 0 0 0 0 []) t w (itZ (anyF (tV M) (tS M dp 0 0 0 0 []) t) 0 w) = itZ (anyF (tV M) (tS M dp 0 0 0 0 []) t) 0 w from if_neg (by omega), ← bdM_st h0 (a := 0) (b := 0) (by show _ = (if 0 < leftZ (tV M) (tS M dp 0 0 0 0 []) t w then _ else 0); rw [if_neg (by omega)]) (by show _ = (if 0 < leftZ (tV M) (tS M dp 0 0 0 0 []) t w then _ else 0); rw [if_neg (by omega)])] at hh; exact hh)
              · refine f_iconst hZ dX4_burnDown_119 ?_
                refine f_istore (L' := [_, _, _, _, _, _, _, _]) hZ dX4_burnDown_120 rfl rfl ?_
                refine f_iinc (L' := [_, _, _, _, _, _, _, _]) hZ dX4_burnDown_122 rfl rfl ?_
                refine f_goto (tgt := 10) hZ dX4_burnDown_125 rfl ?_
                refine f_forget (L' := [_, _, _, _, _, _, .null, .null]) ⟨Or.inl rfl, Or.inl rfl, Or.inl rfl, Or.inl rfl, Or.inl rfl, Or.inl rfl, Or.inr rfl, Or.inr rfl, trivial⟩ ?_
                have hh := ih (w + 1) (by omega) (by omega)
                rw [itZ_succ _ _ h0] at hh
                first
                  | (exfalso; omega)
                  | (rw [show anyF (tV M) (tS M dp 0 0 0 0 []) t w (itZ (anyF (tV M) (tS M dp 0 0 0 0 []) t) 0 w) = 1 from if_pos (by omega), ← bdM_st h0 (a := l7) (b := M 44 (dp * 4 + w)) (by show _ = (if 0 < leftZ (tV M) (tS M dp 0 0 0 0 []) t w then leftZ (tV M) (tS M dp 0 0 0 0 []) t w else 0); rw [if_pos (by omega)]; omega) (by show _ = (if 0 < leftZ (tV M) (tS M dp 0 0 0 0 []) t w then _ else 0); rw [if_pos (by omega), tS_l ⟨h0, by omega⟩])] at hh; exact hh)
                  | (rw [show anyF (tV M) (tS M dp 0 0 0 0 []) t w (itZ (anyF (tV M) (tS M dp 0 0 0 0 []) t) 0 w) = itZ (anyF (tV M) (tS M dp 0 0 0 0 []) t) 0 w from if_neg (by omega), ← bdM_st h0 (a := 0) (b := 0) (by show _ = (if 0 < leftZ (tV M) (tS M dp 0 0 0 0 []) t w then _ else 0); rw [if_neg (by omega)]) (by show _ = (if 0 < leftZ (tV M) (tS M dp 0 0 0 0 []) t w then _ else 0); rw [if_neg (by omega)])] at hh; exact hh)
          · refine f_iload hZ dX4_burnDown_85 rfl ?_
            refine f_goto (tgt := 91) hZ dX4_burnDown_87 rfl ?_
            refine f_iastore hZ dX4_burnDown_91 (by first | rfl | exact hC.t1 | exact hC.t2 | exact hC.t3 | exact hC.t4 | exact hC.t5) (by first | rfl | exact hC.l1 | exact hC.l2 | exact hC.l3 | exact hC.l4 | exact hC.l5) (by omega) (by omega) (by omega) ?_
            refine f_aload_n hZ dX4_burnDown_92 rfl ?_
            refine gX4_24 hZ dX4_burnDown_93 ?_
            refine f_iload_n hZ dX4_burnDown_96 rfl ?_
            refine f_iconst hZ dX4_burnDown_97 ?_
            refine f_iadd hZ dX4_burnDown_98 ?_
            refine f_iload hZ dX4_burnDown_99 rfl ?_
            refine f_iadd hZ dX4_burnDown_101 ?_
            refine f_iload hZ dX4_burnDown_102 rfl ?_
            refine f_le (tgt := 112) hZ dX4_burnDown_104 rfl (by omega) (fun h104 => ?_) (fun h104 => ?_)
            · refine f_iconst hZ dX4_burnDown_112 ?_
              refine f_iastore hZ dX4_burnDown_113 (by first | rfl | exact hC.t1 | exact hC.t2 | exact hC.t3 | exact hC.t4 | exact hC.t5) (by first | rfl | exact hC.l1 | exact hC.l2 | exact hC.l3 | exact hC.l4 | exact hC.l5) (by omega) (by omega) (by omega) ?_
              refine f_iload hZ dX4_burnDown_114 rfl ?_
              refine f_le (tgt := 122) hZ dX4_burnDown_116 rfl (by omega) (fun h116 => ?_) (fun h116 => ?_)
              · refine f_iinc (L' := [_, _, _, _, _, _, _, _]) hZ dX4_burnDown_122 rfl rfl ?_
                refine f_goto (tgt := 10) hZ dX4_burnDown_125 rfl ?_
                refine f_forget (L' := [_, _, _, _, _, _, .null, .null]) ⟨Or.inl rfl, Or.inl rfl, Or.inl rfl, Or.inl rfl, Or.inl rfl, Or.inl rfl, Or.inr rfl, Or.inr rfl, trivial⟩ ?_
                have hh := ih (w + 1) (by omega) (by omega)
                rw [itZ_succ _ _ h0] at hh
                first
                  | (exfalso; omega)
                  | (rw [show anyF (tV M) (tS M dp 0 0 0 0 []) t w (itZ (anyF (tV M) (tS M dp 0 0 0 0 []) t) 0 w) = 1 from if_pos (by omega), ← bdM_st h0 (a := l7) (b := M 44 (dp * 4 + w)) (by show _ = (if 0 < leftZ (tV M) (tS M dp 0 0 0 0 []) t w then leftZ (tV M) (tS M dp 0 0 0 0 []) t w else 0); rw [if_pos (by omega)]; omega) (by show _ = (if 0 < leftZ (tV M) (tS M dp 0 0 0 0 []) t w then _ else 0); rw [if_pos (by omega), tS_l ⟨h0, by omega⟩])] at hh; exact hh)
                  | (rw [show anyF (tV M) (tS M dp 0 0 0 0 []) t w (itZ (anyF (tV M) (tS M dp 0 0 0 0 []) t) 0 w) = itZ (anyF (tV M) (tS M dp 0 0 0 0 []) t) 0 w from if_neg (by omega), ← bdM_st h0 (a := 0) (b := 0) (by show _ = (if 0 < leftZ (tV M) (tS M dp 0 0 0 0 []) t w then _ else 0); rw [if_neg (by omega)]) (by show _ = (if 0 < leftZ (tV M) (tS M dp 0 0 0 0 []) t w then _ else 0); rw [if_neg (by omega)])] at hh; exact hh)
              · refine f_iconst hZ dX4_burnDown_119 ?_
                refine f_istore (L' := [_, _, _, _, _, _, _, _]) hZ dX4_burnDown_120 rfl rfl ?_
                refine f_iinc (L' := [_, _, _, _, _, _, _, _]) hZ dX4_burnDown_122 rfl rfl ?_
                refine f_goto (tgt := 10) hZ dX4_burnDown_125 rfl ?_
                refine f_forget (L' := [_, _, _, _, _, _, .null, .null]) ⟨Or.inl rfl, Or.inl rfl, Or.inl rfl, Or.inl rfl, Or.inl rfl, Or.inl rfl, Or.inr rfl, Or.inr rfl, trivial⟩ ?_
                have hh := ih (w + 1) (by omega) (by omega)
                rw [itZ_succ _ _ h0] at hh
                first
                  | (exfalso; omega)
                  | (rw [show anyF (tV M) (tS M dp 0 0 0 0 []) t w (itZ (anyF (tV M) (tS M dp 0 0 0 0 []) t) 0 w) = 1 from if_pos (by omega), ← bdM_st h0 (a := l7) (b := M 44 (dp * 4 + w)) (by show _ = (if 0 < leftZ (tV M) (tS M dp 0 0 0 0 []) t w then leftZ (tV M) (tS M dp 0 0 0 0 []) t w else 0); rw [if_pos (by omega)]; omega) (by show _ = (if 0 < leftZ (tV M) (tS M dp 0 0 0 0 []) t w then _ else 0); rw [if_pos (by omega), tS_l ⟨h0, by omega⟩])] at hh; exact hh)
                  | (rw [show anyF (tV M) (tS M dp 0 0 0 0 []) t w (itZ (anyF (tV M) (tS M dp 0 0 0 0 []) t) 0 w) = itZ (anyF (tV M) (tS M dp 0 0 0 0 []) t) 0 w from if_neg (by omega), ← bdM_st h0 (a := 0) (b := 0) (by show _ = (if 0 < leftZ (tV M) (tS M dp 0 0 0 0 []) t w then _ else 0); rw [if_neg (by omega)]) (by show _ = (if 0 < leftZ (tV M) (tS M dp 0 0 0 0 []) t w then _ else 0); rw [if_neg (by omega)])] at hh; exact hh)
            · refine f_iload hZ dX4_burnDown_107 rfl ?_
              refine f_goto (tgt := 113) hZ dX4_burnDown_109 rfl ?_
              refine f_iastore hZ dX4_burnDown_113 (by first | rfl | exact hC.t1 | exact hC.t2 | exact hC.t3 | exact hC.t4 | exact hC.t5) (by first | rfl | exact hC.l1 | exact hC.l2 | exact hC.l3 | exact hC.l4 | exact hC.l5) (by omega) (by omega) (by omega) ?_
              refine f_iload hZ dX4_burnDown_114 rfl ?_
              refine f_le (tgt := 122) hZ dX4_burnDown_116 rfl (by omega) (fun h116 => ?_) (fun h116 => ?_)
              · refine f_iinc (L' := [_, _, _, _, _, _, _, _]) hZ dX4_burnDown_122 rfl rfl ?_
                refine f_goto (tgt := 10) hZ dX4_burnDown_125 rfl ?_
                refine f_forget (L' := [_, _, _, _, _, _, .null, .null]) ⟨Or.inl rfl, Or.inl rfl, Or.inl rfl, Or.inl rfl, Or.inl rfl, Or.inl rfl, Or.inr rfl, Or.inr rfl, trivial⟩ ?_
                have hh := ih (w + 1) (by omega) (by omega)
                rw [itZ_succ _ _ h0] at hh
                first
                  | (exfalso; omega)
                  | (rw [show anyF (tV M) (tS M dp 0 0 0 0 []) t w (itZ (anyF (tV M) (tS M dp 0 0 0 0 []) t) 0 w) = 1 from if_pos (by omega), ← bdM_st h0 (a := l7) (b := M 44 (dp * 4 + w)) (by show _ = (if 0 < leftZ (tV M) (tS M dp 0 0 0 0 []) t w then leftZ (tV M) (tS M dp 0 0 0 0 []) t w else 0); rw [if_pos (by omega)]; omega) (by show _ = (if 0 < leftZ (tV M) (tS M dp 0 0 0 0 []) t w then _ else 0); rw [if_pos (by omega), tS_l ⟨h0, by omega⟩])] at hh; exact hh)
                  | (rw [show anyF (tV M) (tS M dp 0 0 0 0 []) t w (itZ (anyF (tV M) (tS M dp 0 0 0 0 []) t) 0 w) = itZ (anyF (tV M) (tS M dp 0 0 0 0 []) t) 0 w from if_neg (by omega), ← bdM_st h0 (a := 0) (b := 0) (by show _ = (if 0 < leftZ (tV M) (tS M dp 0 0 0 0 []) t w then _ else 0); rw [if_neg (by omega)]) (by show _ = (if 0 < leftZ (tV M) (tS M dp 0 0 0 0 []) t w then _ else 0); rw [if_neg (by omega)])] at hh; exact hh)
              · refine f_iconst hZ dX4_burnDown_119 ?_
                refine f_istore (L' := [_, _, _, _, _, _, _, _]) hZ dX4_burnDown_120 rfl rfl ?_
                refine f_iinc (L' := [_, _, _, _, _, _, _, _]) hZ dX4_burnDown_122 rfl rfl ?_
                refine f_goto (tgt := 10) hZ dX4_burnDown_125 rfl ?_
                refine f_forget (L' := [_, _, _, _, _, _, .null, .null]) ⟨Or.inl rfl, Or.inl rfl, Or.inl rfl, Or.inl rfl, Or.inl rfl, Or.inl rfl, Or.inr rfl, Or.inr rfl, trivial⟩ ?_
                have hh := ih (w + 1) (by omega) (by omega)
                rw [itZ_succ _ _ h0] at hh
                first
                  | (exfalso; omega)
                  | (rw [show anyF (tV M) (tS M dp 0 0 0 0 []) t w (itZ (anyF (tV M) (tS M dp 0 0 0 0 []) t) 0 w) = 1 from if_pos (by omega), ← bdM_st h0 (a := l7) (b := M 44 (dp * 4 + w)) (by show _ = (if 0 < leftZ (tV M) (tS M dp 0 0 0 0 []) t w then leftZ (tV M) (tS M dp 0 0 0 0 []) t w else 0); rw [if_pos (by omega)]; omega) (by show _ = (if 0 < leftZ (tV M) (tS M dp 0 0 0 0 []) t w then _ else 0); rw [if_pos (by omega), tS_l ⟨h0, by omega⟩])] at hh; exact hh)
                  | (rw [show anyF (tV M) (tS M dp 0 0 0 0 []) t w (itZ (anyF (tV M) (tS M dp 0 0 0 0 []) t) 0 w) = itZ (anyF (tV M) (tS M dp 0 0 0 0 []) t) 0 w from if_neg (by omega), ← bdM_st h0 (a := 0) (b := 0) (by show _ = (if 0 < leftZ (tV M) (tS M dp 0 0 0 0 []) t w then _ else 0); rw [if_neg (by omega)]) (by show _ = (if 0 < leftZ (tV M) (tS M dp 0 0 0 0 []) t w then _ else 0); rw [if_neg (by omega)])] at hh; exact hh)
        · refine f_aload_n hZ dX4_burnDown_32 rfl ?_
          refine gX4_21 hZ dX4_burnDown_33 ?_
          refine f_iload_n hZ dX4_burnDown_36 rfl ?_
          refine f_iload hZ dX4_burnDown_37 rfl ?_
          refine f_iadd hZ dX4_burnDown_39 ?_
          refine f_iaload hZ dX4_burnDown_40 (by first | rfl | exact hC.t1 | exact hC.t2 | exact hC.t3 | exact hC.t4 | exact hC.t5) (by first | rfl | exact hC.l1 | exact hC.l2 | exact hC.l3 | exact hC.l4 | exact hC.l5) (by omega) (by omega) (fun r40 => ?_)
          try simp only [bdM_lo (show dp * 4 + w < dp * 4 + 4 by omega), bdM_ne (show (46 : Nat) ≠ 43 ∧ (46 : Nat) ≠ 44 by decide)] at r40 ⊢
          refine f_goto (tgt := 68) hZ dX4_burnDown_41 rfl ?_
          refine f_nm (fun l7 el7 => ?_)
          refine f_istore (L' := [_, _, _, _, _, _, _, _]) hZ dX4_burnDown_68 rfl rfl ?_
          have hlz : leftZ (tV M) (tS M dp 0 0 0 0 []) t w = l7 := by
            unfold leftZ
            rw [tS_p ⟨h0, by omega⟩, tS_spd ⟨h0, by omega⟩, el7]
            first | (rw [if_pos (by omega)]; omega) | (rw [if_neg (by omega)]; omega)
          refine f_aload_n hZ dX4_burnDown_70 rfl ?_
          refine gX4_21 hZ dX4_burnDown_71 ?_
          refine f_iload_n hZ dX4_burnDown_74 rfl ?_
          refine f_iconst hZ dX4_burnDown_75 ?_
          refine f_iadd hZ dX4_burnDown_76 ?_
          refine f_iload hZ dX4_burnDown_77 rfl ?_
          refine f_iadd hZ dX4_burnDown_79 ?_
          refine f_iload hZ dX4_burnDown_80 rfl ?_
          refine f_le (tgt := 90) hZ dX4_burnDown_82 rfl (by omega) (fun h82 => ?_) (fun h82 => ?_)
          · refine f_iconst hZ dX4_burnDown_90 ?_
            refine f_iastore hZ dX4_burnDown_91 (by first | rfl | exact hC.t1 | exact hC.t2 | exact hC.t3 | exact hC.t4 | exact hC.t5) (by first | rfl | exact hC.l1 | exact hC.l2 | exact hC.l3 | exact hC.l4 | exact hC.l5) (by omega) (by omega) (by omega) ?_
            refine f_aload_n hZ dX4_burnDown_92 rfl ?_
            refine gX4_24 hZ dX4_burnDown_93 ?_
            refine f_iload_n hZ dX4_burnDown_96 rfl ?_
            refine f_iconst hZ dX4_burnDown_97 ?_
            refine f_iadd hZ dX4_burnDown_98 ?_
            refine f_iload hZ dX4_burnDown_99 rfl ?_
            refine f_iadd hZ dX4_burnDown_101 ?_
            refine f_iload hZ dX4_burnDown_102 rfl ?_
            refine f_le (tgt := 112) hZ dX4_burnDown_104 rfl (by omega) (fun h104 => ?_) (fun h104 => ?_)
            · refine f_iconst hZ dX4_burnDown_112 ?_
              refine f_iastore hZ dX4_burnDown_113 (by first | rfl | exact hC.t1 | exact hC.t2 | exact hC.t3 | exact hC.t4 | exact hC.t5) (by first | rfl | exact hC.l1 | exact hC.l2 | exact hC.l3 | exact hC.l4 | exact hC.l5) (by omega) (by omega) (by omega) ?_
              refine f_iload hZ dX4_burnDown_114 rfl ?_
              refine f_le (tgt := 122) hZ dX4_burnDown_116 rfl (by omega) (fun h116 => ?_) (fun h116 => ?_)
              · refine f_iinc (L' := [_, _, _, _, _, _, _, _]) hZ dX4_burnDown_122 rfl rfl ?_
                refine f_goto (tgt := 10) hZ dX4_burnDown_125 rfl ?_
                refine f_forget (L' := [_, _, _, _, _, _, .null, .null]) ⟨Or.inl rfl, Or.inl rfl, Or.inl rfl, Or.inl rfl, Or.inl rfl, Or.inl rfl, Or.inr rfl, Or.inr rfl, trivial⟩ ?_
                have hh := ih (w + 1) (by omega) (by omega)
                rw [itZ_succ _ _ h0] at hh
                first
                  | (exfalso; omega)
                  | (rw [show anyF (tV M) (tS M dp 0 0 0 0 []) t w (itZ (anyF (tV M) (tS M dp 0 0 0 0 []) t) 0 w) = 1 from if_pos (by omega), ← bdM_st h0 (a := l7) (b := M 44 (dp * 4 + w)) (by show _ = (if 0 < leftZ (tV M) (tS M dp 0 0 0 0 []) t w then leftZ (tV M) (tS M dp 0 0 0 0 []) t w else 0); rw [if_pos (by omega)]; omega) (by show _ = (if 0 < leftZ (tV M) (tS M dp 0 0 0 0 []) t w then _ else 0); rw [if_pos (by omega), tS_l ⟨h0, by omega⟩])] at hh; exact hh)
                  | (rw [show anyF (tV M) (tS M dp 0 0 0 0 []) t w (itZ (anyF (tV M) (tS M dp 0 0 0 0 []) t) 0 w) = itZ (anyF (tV M) (tS M dp 0 0 0 0 []) t) 0 w from if_neg (by omega), ← bdM_st h0 (a := 0) (b := 0) (by show _ = (if 0 < leftZ (tV M) (tS M dp 0 0 0 0 []) t w then _ else 0); rw [if_neg (by omega)]) (by show _ = (if 0 < leftZ (tV M) (tS M dp 0 0 0 0 []) t w then _ else 0); rw [if_neg (by omega)])] at hh; exact hh)
              · refine f_iconst hZ dX4_burnDown_119 ?_
                refine f_istore (L' := [_, _, _, _, _, _, _, _]) hZ dX4_burnDown_120 rfl rfl ?_
                refine f_iinc (L' := [_, _, _, _, _, _, _, _]) hZ dX4_burnDown_122 rfl rfl ?_
                refine f_goto (tgt := 10) hZ dX4_burnDown_125 rfl ?_
                refine f_forget (L' := [_, _, _, _, _, _, .null, .null]) ⟨Or.inl rfl, Or.inl rfl, Or.inl rfl, Or.inl rfl, Or.inl rfl, Or.inl rfl, Or.inr rfl, Or.inr rfl, trivial⟩ ?_
                have hh := ih (w + 1) (by omega) (by omega)
                rw [itZ_succ _ _ h0] at hh
                first
                  | (exfalso; omega)
                  | (rw [show anyF (tV M) (tS M dp 0 0 0 0 []) t w (itZ (anyF (tV M) (tS M dp 0 0 0 0 []) t) 0 w) = 1 from if_pos (by omega), ← bdM_st h0 (a := l7) (b := M 44 (dp * 4 + w)) (by show _ = (if 0 < leftZ (tV M) (tS M dp 0 0 0 0 []) t w then leftZ (tV M) (tS M dp 0 0 0 0 []) t w else 0); rw [if_pos (by omega)]; omega) (by show _ = (if 0 < leftZ (tV M) (tS M dp 0 0 0 0 []) t w then _ else 0); rw [if_pos (by omega), tS_l ⟨h0, by omega⟩])] at hh; exact hh)
                  | (rw [show anyF (tV M) (tS M dp 0 0 0 0 []) t w (itZ (anyF (tV M) (tS M dp 0 0 0 0 []) t) 0 w) = itZ (anyF (tV M) (tS M dp 0 0 0 0 []) t) 0 w from if_neg (by omega), ← bdM_st h0 (a := 0) (b := 0) (by show _ = (if 0 < leftZ (tV M) (tS M dp 0 0 0 0 []) t w then _ else 0); rw [if_neg (by omega)]) (by show _ = (if 0 < leftZ (tV M) (tS M dp 0 0 0 0 []) t w then _ else 0); rw [if_neg (by omega)])] at hh; exact hh)
            · refine f_iload hZ dX4_burnDown_107 rfl ?_
              refine f_goto (tgt := 113) hZ dX4_burnDown_109 rfl ?_
              refine f_iastore hZ dX4_burnDown_113 (by first | rfl | exact hC.t1 | exact hC.t2 | exact hC.t3 | exact hC.t4 | exact hC.t5) (by first | rfl | exact hC.l1 | exact hC.l2 | exact hC.l3 | exact hC.l4 | exact hC.l5) (by omega) (by omega) (by omega) ?_
              refine f_iload hZ dX4_burnDown_114 rfl ?_
              refine f_le (tgt := 122) hZ dX4_burnDown_116 rfl (by omega) (fun h116 => ?_) (fun h116 => ?_)
              · refine f_iinc (L' := [_, _, _, _, _, _, _, _]) hZ dX4_burnDown_122 rfl rfl ?_
                refine f_goto (tgt := 10) hZ dX4_burnDown_125 rfl ?_
                refine f_forget (L' := [_, _, _, _, _, _, .null, .null]) ⟨Or.inl rfl, Or.inl rfl, Or.inl rfl, Or.inl rfl, Or.inl rfl, Or.inl rfl, Or.inr rfl, Or.inr rfl, trivial⟩ ?_
                have hh := ih (w + 1) (by omega) (by omega)
                rw [itZ_succ _ _ h0] at hh
                first
                  | (exfalso; omega)
                  | (rw [show anyF (tV M) (tS M dp 0 0 0 0 []) t w (itZ (anyF (tV M) (tS M dp 0 0 0 0 []) t) 0 w) = 1 from if_pos (by omega), ← bdM_st h0 (a := l7) (b := M 44 (dp * 4 + w)) (by show _ = (if 0 < leftZ (tV M) (tS M dp 0 0 0 0 []) t w then leftZ (tV M) (tS M dp 0 0 0 0 []) t w else 0); rw [if_pos (by omega)]; omega) (by show _ = (if 0 < leftZ (tV M) (tS M dp 0 0 0 0 []) t w then _ else 0); rw [if_pos (by omega), tS_l ⟨h0, by omega⟩])] at hh; exact hh)
                  | (rw [show anyF (tV M) (tS M dp 0 0 0 0 []) t w (itZ (anyF (tV M) (tS M dp 0 0 0 0 []) t) 0 w) = itZ (anyF (tV M) (tS M dp 0 0 0 0 []) t) 0 w from if_neg (by omega), ← bdM_st h0 (a := 0) (b := 0) (by show _ = (if 0 < leftZ (tV M) (tS M dp 0 0 0 0 []) t w then _ else 0); rw [if_neg (by omega)]) (by show _ = (if 0 < leftZ (tV M) (tS M dp 0 0 0 0 []) t w then _ else 0); rw [if_neg (by omega)])] at hh; exact hh)
              · refine f_iconst hZ dX4_burnDown_119 ?_
                refine f_istore (L' := [_, _, _, _, _, _, _, _]) hZ dX4_burnDown_120 rfl rfl ?_
                refine f_iinc (L' := [_, _, _, _, _, _, _, _]) hZ dX4_burnDown_122 rfl rfl ?_
                refine f_goto (tgt := 10) hZ dX4_burnDown_125 rfl ?_
                refine f_forget (L' := [_, _, _, _, _, _, .null, .null]) ⟨Or.inl rfl, Or.inl rfl, Or.inl rfl, Or.inl rfl, Or.inl rfl, Or.inl rfl, Or.inr rfl, Or.inr rfl, trivial⟩ ?_
                have hh := ih (w + 1) (by omega) (by omega)
                rw [itZ_succ _ _ h0] at hh
                first
                  | (exfalso; omega)
                  | (rw [show anyF (tV M) (tS M dp 0 0 0 0 []) t w (itZ (anyF (tV M) (tS M dp 0 0 0 0 []) t) 0 w) = 1 from if_pos (by omega), ← bdM_st h0 (a := l7) (b := M 44 (dp * 4 + w)) (by show _ = (if 0 < leftZ (tV M) (tS M dp 0 0 0 0 []) t w then leftZ (tV M) (tS M dp 0 0 0 0 []) t w else 0); rw [if_pos (by omega)]; omega) (by show _ = (if 0 < leftZ (tV M) (tS M dp 0 0 0 0 []) t w then _ else 0); rw [if_pos (by omega), tS_l ⟨h0, by omega⟩])] at hh; exact hh)
                  | (rw [show anyF (tV M) (tS M dp 0 0 0 0 []) t w (itZ (anyF (tV M) (tS M dp 0 0 0 0 []) t) 0 w) = itZ (anyF (tV M) (tS M dp 0 0 0 0 []) t) 0 w from if_neg (by omega), ← bdM_st h0 (a := 0) (b := 0) (by show _ = (if 0 < leftZ (tV M) (tS M dp 0 0 0 0 []) t w then _ else 0); rw [if_neg (by omega)]) (by show _ = (if 0 < leftZ (tV M) (tS M dp 0 0 0 0 []) t w then _ else 0); rw [if_neg (by omega)])] at hh; exact hh)
          · refine f_iload hZ dX4_burnDown_85 rfl ?_
            refine f_goto (tgt := 91) hZ dX4_burnDown_87 rfl ?_
            refine f_iastore hZ dX4_burnDown_91 (by first | rfl | exact hC.t1 | exact hC.t2 | exact hC.t3 | exact hC.t4 | exact hC.t5) (by first | rfl | exact hC.l1 | exact hC.l2 | exact hC.l3 | exact hC.l4 | exact hC.l5) (by omega) (by omega) (by omega) ?_
            refine f_aload_n hZ dX4_burnDown_92 rfl ?_
            refine gX4_24 hZ dX4_burnDown_93 ?_
            refine f_iload_n hZ dX4_burnDown_96 rfl ?_
            refine f_iconst hZ dX4_burnDown_97 ?_
            refine f_iadd hZ dX4_burnDown_98 ?_
            refine f_iload hZ dX4_burnDown_99 rfl ?_
            refine f_iadd hZ dX4_burnDown_101 ?_
            refine f_iload hZ dX4_burnDown_102 rfl ?_
            refine f_le (tgt := 112) hZ dX4_burnDown_104 rfl (by omega) (fun h104 => ?_) (fun h104 => ?_)
            · refine f_iconst hZ dX4_burnDown_112 ?_
              refine f_iastore hZ dX4_burnDown_113 (by first | rfl | exact hC.t1 | exact hC.t2 | exact hC.t3 | exact hC.t4 | exact hC.t5) (by first | rfl | exact hC.l1 | exact hC.l2 | exact hC.l3 | exact hC.l4 | exact hC.l5) (by omega) (by omega) (by omega) ?_
              refine f_iload hZ dX4_burnDown_114 rfl ?_
              refine f_le (tgt := 122) hZ dX4_burnDown_116 rfl (by omega) (fun h116 => ?_) (fun h116 => ?_)
              · refine f_iinc (L' := [_, _, _, _, _, _, _, _]) hZ dX4_burnDown_122 rfl rfl ?_
                refine f_goto (tgt := 10) hZ dX4_burnDown_125 rfl ?_
                refine f_forget (L' := [_, _, _, _, _, _, .null, .null]) ⟨Or.inl rfl, Or.inl rfl, Or.inl rfl, Or.inl rfl, Or.inl rfl, Or.inl rfl, Or.inr rfl, Or.inr rfl, trivial⟩ ?_
                have hh := ih (w + 1) (by omega) (by omega)
                rw [itZ_succ _ _ h0] at hh
                first
                  | (exfalso; omega)
                  | (rw [show anyF (tV M) (tS M dp 0 0 0 0 []) t w (itZ (anyF (tV M) (tS M dp 0 0 0 0 []) t) 0 w) = 1 from if_pos (by omega), ← bdM_st h0 (a := l7) (b := M 44 (dp * 4 + w)) (by show _ = (if 0 < leftZ (tV M) (tS M dp 0 0 0 0 []) t w then leftZ (tV M) (tS M dp 0 0 0 0 []) t w else 0); rw [if_pos (by omega)]; omega) (by show _ = (if 0 < leftZ (tV M) (tS M dp 0 0 0 0 []) t w then _ else 0); rw [if_pos (by omega), tS_l ⟨h0, by omega⟩])] at hh; exact hh)
                  | (rw [show anyF (tV M) (tS M dp 0 0 0 0 []) t w (itZ (anyF (tV M) (tS M dp 0 0 0 0 []) t) 0 w) = itZ (anyF (tV M) (tS M dp 0 0 0 0 []) t) 0 w from if_neg (by omega), ← bdM_st h0 (a := 0) (b := 0) (by show _ = (if 0 < leftZ (tV M) (tS M dp 0 0 0 0 []) t w then _ else 0); rw [if_neg (by omega)]) (by show _ = (if 0 < leftZ (tV M) (tS M dp 0 0 0 0 []) t w then _ else 0); rw [if_neg (by omega)])] at hh; exact hh)
              · refine f_iconst hZ dX4_burnDown_119 ?_
                refine f_istore (L' := [_, _, _, _, _, _, _, _]) hZ dX4_burnDown_120 rfl rfl ?_
                refine f_iinc (L' := [_, _, _, _, _, _, _, _]) hZ dX4_burnDown_122 rfl rfl ?_
                refine f_goto (tgt := 10) hZ dX4_burnDown_125 rfl ?_
                refine f_forget (L' := [_, _, _, _, _, _, .null, .null]) ⟨Or.inl rfl, Or.inl rfl, Or.inl rfl, Or.inl rfl, Or.inl rfl, Or.inl rfl, Or.inr rfl, Or.inr rfl, trivial⟩ ?_
                have hh := ih (w + 1) (by omega) (by omega)
                rw [itZ_succ _ _ h0] at hh
                first
                  | (exfalso; omega)
                  | (rw [show anyF (tV M) (tS M dp 0 0 0 0 []) t w (itZ (anyF (tV M) (tS M dp 0 0 0 0 []) t) 0 w) = 1 from if_pos (by omega), ← bdM_st h0 (a := l7) (b := M 44 (dp * 4 + w)) (by show _ = (if 0 < leftZ (tV M) (tS M dp 0 0 0 0 []) t w then leftZ (tV M) (tS M dp 0 0 0 0 []) t w else 0); rw [if_pos (by omega)]; omega) (by show _ = (if 0 < leftZ (tV M) (tS M dp 0 0 0 0 []) t w then _ else 0); rw [if_pos (by omega), tS_l ⟨h0, by omega⟩])] at hh; exact hh)
                  | (rw [show anyF (tV M) (tS M dp 0 0 0 0 []) t w (itZ (anyF (tV M) (tS M dp 0 0 0 0 []) t) 0 w) = itZ (anyF (tV M) (tS M dp 0 0 0 0 []) t) 0 w from if_neg (by omega), ← bdM_st h0 (a := 0) (b := 0) (by show _ = (if 0 < leftZ (tV M) (tS M dp 0 0 0 0 []) t w then _ else 0); rw [if_neg (by omega)]) (by show _ = (if 0 < leftZ (tV M) (tS M dp 0 0 0 0 []) t w then _ else 0); rw [if_neg (by omega)])] at hh; exact hh)
            · refine f_iload hZ dX4_burnDown_107 rfl ?_
              refine f_goto (tgt := 113) hZ dX4_burnDown_109 rfl ?_
              refine f_iastore hZ dX4_burnDown_113 (by first | rfl | exact hC.t1 | exact hC.t2 | exact hC.t3 | exact hC.t4 | exact hC.t5) (by first | rfl | exact hC.l1 | exact hC.l2 | exact hC.l3 | exact hC.l4 | exact hC.l5) (by omega) (by omega) (by omega) ?_
              refine f_iload hZ dX4_burnDown_114 rfl ?_
              refine f_le (tgt := 122) hZ dX4_burnDown_116 rfl (by omega) (fun h116 => ?_) (fun h116 => ?_)
              · refine f_iinc (L' := [_, _, _, _, _, _, _, _]) hZ dX4_burnDown_122 rfl rfl ?_
                refine f_goto (tgt := 10) hZ dX4_burnDown_125 rfl ?_
                refine f_forget (L' := [_, _, _, _, _, _, .null, .null]) ⟨Or.inl rfl, Or.inl rfl, Or.inl rfl, Or.inl rfl, Or.inl rfl, Or.inl rfl, Or.inr rfl, Or.inr rfl, trivial⟩ ?_
                have hh := ih (w + 1) (by omega) (by omega)
                rw [itZ_succ _ _ h0] at hh
                first
                  | (exfalso; omega)
                  | (rw [show anyF (tV M) (tS M dp 0 0 0 0 []) t w (itZ (anyF (tV M) (tS M dp 0 0 0 0 []) t) 0 w) = 1 from if_pos (by omega), ← bdM_st h0 (a := l7) (b := M 44 (dp * 4 + w)) (by show _ = (if 0 < leftZ (tV M) (tS M dp 0 0 0 0 []) t w then leftZ (tV M) (tS M dp 0 0 0 0 []) t w else 0); rw [if_pos (by omega)]; omega) (by show _ = (if 0 < leftZ (tV M) (tS M dp 0 0 0 0 []) t w then _ else 0); rw [if_pos (by omega), tS_l ⟨h0, by omega⟩])] at hh; exact hh)
                  | (rw [show anyF (tV M) (tS M dp 0 0 0 0 []) t w (itZ (anyF (tV M) (tS M dp 0 0 0 0 []) t) 0 w) = itZ (anyF (tV M) (tS M dp 0 0 0 0 []) t) 0 w from if_neg (by omega), ← bdM_st h0 (a := 0) (b := 0) (by show _ = (if 0 < leftZ (tV M) (tS M dp 0 0 0 0 []) t w then _ else 0); rw [if_neg (by omega)]) (by show _ = (if 0 < leftZ (tV M) (tS M dp 0 0 0 0 []) t w then _ else 0); rw [if_neg (by omega)])] at hh; exact hh)
              · refine f_iconst hZ dX4_burnDown_119 ?_
                refine f_istore (L' := [_, _, _, _, _, _, _, _]) hZ dX4_burnDown_120 rfl rfl ?_
                refine f_iinc (L' := [_, _, _, _, _, _, _, _]) hZ dX4_burnDown_122 rfl rfl ?_
                refine f_goto (tgt := 10) hZ dX4_burnDown_125 rfl ?_
                refine f_forget (L' := [_, _, _, _, _, _, .null, .null]) ⟨Or.inl rfl, Or.inl rfl, Or.inl rfl, Or.inl rfl, Or.inl rfl, Or.inl rfl, Or.inr rfl, Or.inr rfl, trivial⟩ ?_
                have hh := ih (w + 1) (by omega) (by omega)
                rw [itZ_succ _ _ h0] at hh
                first
                  | (exfalso; omega)
                  | (rw [show anyF (tV M) (tS M dp 0 0 0 0 []) t w (itZ (anyF (tV M) (tS M dp 0 0 0 0 []) t) 0 w) = 1 from if_pos (by omega), ← bdM_st h0 (a := l7) (b := M 44 (dp * 4 + w)) (by show _ = (if 0 < leftZ (tV M) (tS M dp 0 0 0 0 []) t w then leftZ (tV M) (tS M dp 0 0 0 0 []) t w else 0); rw [if_pos (by omega)]; omega) (by show _ = (if 0 < leftZ (tV M) (tS M dp 0 0 0 0 []) t w then _ else 0); rw [if_pos (by omega), tS_l ⟨h0, by omega⟩])] at hh; exact hh)
                  | (rw [show anyF (tV M) (tS M dp 0 0 0 0 []) t w (itZ (anyF (tV M) (tS M dp 0 0 0 0 []) t) 0 w) = itZ (anyF (tV M) (tS M dp 0 0 0 0 []) t) 0 w from if_neg (by omega), ← bdM_st h0 (a := 0) (b := 0) (by show _ = (if 0 < leftZ (tV M) (tS M dp 0 0 0 0 []) t w then _ else 0); rw [if_neg (by omega)]) (by show _ = (if 0 < leftZ (tV M) (tS M dp 0 0 0 0 []) t w then _ else 0); rw [if_neg (by omega)])] at hh; exact hh)
  refine f_iload_n hZ dX4_burnDown_0 rfl ?_
  refine f_iconst hZ dX4_burnDown_1 ?_
  refine f_imul hZ dX4_burnDown_2 ?_
  refine f_istore_n (L' := [_, _, _, _, _, _, _, _]) hZ dX4_burnDown_3 rfl rfl ?_
  refine f_iconst hZ dX4_burnDown_4 ?_
  refine f_istore (L' := [_, _, _, _, _, _, _, _]) hZ dX4_burnDown_5 rfl rfl ?_
  refine f_iconst hZ dX4_burnDown_7 ?_
  refine f_istore (L' := [_, _, _, _, _, _, _, _]) hZ dX4_burnDown_8 rfl rfl ?_
  have hh := loop 4 0 (by omega) (by omega)
  rw [bdM_0] at hh
  exact hh

