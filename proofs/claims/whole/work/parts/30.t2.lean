/-! speeds -/
def spN (M : fM) (dmp j : Int) : Int := if j / 3 < M 1 5 then fastZ (M 2 (j / 3)) (M 3 (j / 3)) (j % 3) dmp else 0
def spM (M : fM) (dmp k : Int) : fM := fun c i => if c = 46 ∧ 0 ≤ i ∧ i < k then spN M dmp i else M c i
def spC (M : fM) (dmp : Int) : Int → Int → Int := fun j acc => if M 46 j = spN M dmp j then acc else 1
theorem spM_0 {M : fM} {dmp : Int} : spM M dmp 0 = M := by funext c i; unfold spM; rw [if_neg (by omega)]
theorem spM_k {M : fM} {dmp k : Int} : spM M dmp k 46 k = M 46 k := by unfold spM; rw [if_neg (by omega)]
theorem spM_st {M : fM} {dmp k a : Int} (h0 : 0 ≤ k) (ha : a = spN M dmp k) : up (spM M dmp k) 46 k a = spM M dmp (k + 1) := by
  subst ha
  funext c i
  unfold up spM
  by_cases h1 : c = 46 ∧ i = k
  · rw [if_pos h1, if_pos (by omega), h1.2]
  · rw [if_neg h1]
    by_cases h2 : c = 46 ∧ 0 ≤ i ∧ i < k
    · rw [if_pos h2, if_pos (show c = 46 ∧ 0 ≤ i ∧ i < k + 1 by omega)]
    · rw [if_neg h2, if_neg (show ¬ (c = 46 ∧ 0 ≤ i ∧ i < k + 1) by omega)]
theorem spM_sk {M : fM} {dmp k : Int} (h0 : 0 ≤ k) (h : M 46 k = spN M dmp k) : spM M dmp k = spM M dmp (k + 1) := by
  rw [← spM_st h0 h, up_id spM_k]
set_option maxRecDepth 20000 in
set_option maxHeartbeats 4000000 in
theorem t_X4_takeSpeeds {X : fX} {M : fM} {d : Nat} {q : Int} (hq : 0 ≤ q ∧ q ≤ 9) (hW : WfK M) : fC X (d + 2) mX4_takeSpeeds [.ref (xa X 39), .int (iv q)] M (QI fun r M' => M' = spM M q 12 ∧ r = itZ (spC M q) 0 12) := by
  obtain ⟨hn, hdm, hmo, hA⟩ := hW
  replace hA : WfA (M 1 5) (M 2) (M 3) (M 4) (M 5) (M 6) := hA
  refine fC.of (L := [_, _, _, _, _, _, _]) (by decide +kernel) rfl (Nat.le_of_ble_eq_true rfl) (fun Z hZ hR => ?_)
  have hC : ∀ k, 0 ≤ k → itZ (spC M q) 0 k = 0 ∨ itZ (spC M q) 0 k = 1 := fun k hk => itZ_inv (fun _ x => x = 0 ∨ x = 1) (by omega) (fun j x _ _ hx => by unfold spC; split <;> omega) k hk (Int.le_refl k)
  have loop : ∀ (m : Nat) (w : Int), 0 ≤ w → w + m = 4 → fG X mX4_takeSpeeds Z 4 [.ref (xa X 39), .int (iv q), .int (iv (itZ (spC M q) 0 (w * 3))), .int (iv w), .null, .null, .null] [] (spM M q (w * 3)) := by
    intro m
    induction m with
    | zero =>
      intro w h0 hw
      have hCw := hC (w * 3) (by omega)
      refine f_iload_n hZ dX4_takeSpeeds_4 rfl ?_
      refine f_iconst hZ dX4_takeSpeeds_5 ?_
      refine f_ige (tgt := 74) hZ dX4_takeSpeeds_6 rfl (by omega) (by omega) (fun h6 => ?_) (fun h6 => ?_)
      · refine f_iload_n hZ dX4_takeSpeeds_74 rfl ?_
        exact f_retZ hZ hR dX4_takeSpeeds_75 rfl (by omega) (by have hwe : w = 4 := (by omega); subst hwe; exact ⟨rfl, rfl⟩)
      · exfalso; omega
    | succ m ih =>
      intro w h0 hw
      have inner : ∀ (m2 : Nat) (e : Int), 0 ≤ e → e + m2 = 3 → fG X mX4_takeSpeeds Z 12 [.ref (xa X 39), .int (iv q), .int (iv (itZ (spC M q) 0 (w * 3 + e))), .int (iv w), .int (iv e), .null, .null] [] (spM M q (w * 3 + e)) := by
        intro m2
        induction m2 with
        | zero =>
          intro e he0 hem
          refine f_iload hZ dX4_takeSpeeds_12 rfl ?_
          refine f_iconst hZ dX4_takeSpeeds_14 ?_
          refine f_igt (tgt := 68) hZ dX4_takeSpeeds_15 rfl (by omega) (by omega) (fun h15 => ?_) (fun h15 => ?_)
          · refine f_iinc (L' := [_, _, _, _, _, _, _]) hZ dX4_takeSpeeds_68 rfl rfl ?_
            refine f_goto (tgt := 4) hZ dX4_takeSpeeds_71 rfl ?_
            refine f_forget (L' := [_, _, _, _, .null, .null, .null]) ⟨Or.inl rfl, Or.inl rfl, Or.inl rfl, Or.inl rfl, Or.inr rfl, Or.inr rfl, Or.inr rfl, trivial⟩ ?_
            have hh := ih (w + 1) (by omega) (by omega)
            rw [show (w + 1) * 3 = w * 3 + e by omega] at hh
            exact hh
          · exfalso; omega
        | succ m2 ih2 =>
          intro e he0 hem
          have hCe := hC (w * 3 + e) (by omega)
          refine f_iload hZ dX4_takeSpeeds_12 rfl ?_
          refine f_iconst hZ dX4_takeSpeeds_14 ?_
          refine f_igt (tgt := 68) hZ dX4_takeSpeeds_15 rfl (by omega) (by omega) (fun h15 => ?_) (fun h15 => ?_)
          · exfalso; omega
          · refine f_iload_n hZ dX4_takeSpeeds_18 rfl ?_
            refine f_iconst hZ dX4_takeSpeeds_19 ?_
            refine f_imul hZ dX4_takeSpeeds_20 ?_
            refine f_iload hZ dX4_takeSpeeds_21 rfl ?_
            refine f_iadd hZ dX4_takeSpeeds_23 ?_
            refine f_istore (L' := [_, _, _, _, _, _, _]) hZ dX4_takeSpeeds_24 rfl rfl ?_
            refine f_aload_n hZ dX4_takeSpeeds_26 rfl ?_
            refine gX4_47 hZ dX4_takeSpeeds_27 ?_
            refine f_iload_n hZ dX4_takeSpeeds_30 rfl ?_
            refine f_iload hZ dX4_takeSpeeds_31 rfl ?_
            refine f_iload_n hZ dX4_takeSpeeds_33 rfl ?_
            refine vX4_81 hZ dX4_takeSpeeds_34 (by first | exact hC | exact isC1 | exact isC7 | exact isC13) (t_X0_fast isC1 (by omega) (by omega) (by omega) hn hA) (fun a34 M34 r34 h34 => ?_)
            try simp only [Nat.reduceAdd] at h34
            obtain ⟨e34, h34⟩ := h34
            replace e34 := e34.symm
            subst e34
            replace h34 : a34 = spN M q (w * 3 + e) := by
              rw [h34]; unfold spN; rw [show (w * 3 + e) / 3 = w by omega, show (w * 3 + e) % 3 = e by omega]
              by_cases hz : w < M 1 5
              · rw [if_pos hz]; exact if_pos ⟨by omega, hz⟩
              · rw [if_neg hz]; exact if_neg (fun y => hz y.2)
            subst h34
            refine f_istore (L' := [_, _, _, _, _, _, _]) hZ dX4_takeSpeeds_37 rfl rfl ?_
            refine f_aload_n hZ dX4_takeSpeeds_39 rfl ?_
            refine gX4_30 hZ dX4_takeSpeeds_40 ?_
            refine f_iload hZ dX4_takeSpeeds_43 rfl ?_
            refine f_iaload hZ dX4_takeSpeeds_45 (by first | rfl | exact hC.t1 | exact hC.t2 | exact hC.t3 | exact hC.t4 | exact hC.t5) (by first | rfl | exact hC.l1 | exact hC.l2 | exact hC.l3 | exact hC.l4 | exact hC.l5) (by omega) (by omega) (fun r45 => ?_)
            try simp only [spM_k] at r45 ⊢
            refine f_iload hZ dX4_takeSpeeds_46 rfl ?_
            refine f_ieq (tgt := 62) hZ dX4_takeSpeeds_48 rfl (by omega) (by omega) (fun h48 => ?_) (fun h48 => ?_)
            · refine f_iinc (L' := [_, _, _, _, _, _, _]) hZ dX4_takeSpeeds_62 rfl rfl ?_
              refine f_goto (tgt := 12) hZ dX4_takeSpeeds_65 rfl ?_
              refine f_forget (L' := [_, _, _, _, _, .null, .null]) ⟨Or.inl rfl, Or.inl rfl, Or.inl rfl, Or.inl rfl, Or.inl rfl, Or.inr rfl, Or.inr rfl, trivial⟩ ?_
              have hh := ih2 (e + 1) (by omega) (by omega)
              rw [show w * 3 + (e + 1) = w * 3 + e + 1 by omega, itZ_succ _ _ (by omega : 0 ≤ w * 3 + e)] at hh
              first | (rw [show spC M q (w * 3 + e) (itZ (spC M q) 0 (w * 3 + e)) = itZ (spC M q) 0 (w * 3 + e) from if_pos (by omega), ← spM_sk (by omega) (by omega)] at hh; exact hh) | (rw [show spC M q (w * 3 + e) (itZ (spC M q) 0 (w * 3 + e)) = 1 from if_neg (by omega), ← spM_st (by omega) rfl] at hh; exact hh)
            · refine f_aload_n hZ dX4_takeSpeeds_51 rfl ?_
              refine gX4_30 hZ dX4_takeSpeeds_52 ?_
              refine f_iload hZ dX4_takeSpeeds_55 rfl ?_
              refine f_iload hZ dX4_takeSpeeds_57 rfl ?_
              refine f_iastore hZ dX4_takeSpeeds_59 (by first | rfl | exact hC.t1 | exact hC.t2 | exact hC.t3 | exact hC.t4 | exact hC.t5) (by first | rfl | exact hC.l1 | exact hC.l2 | exact hC.l3 | exact hC.l4 | exact hC.l5) (by omega) (by omega) (by omega) ?_
              refine f_iconst hZ dX4_takeSpeeds_60 ?_
              refine f_istore_n (L' := [_, _, _, _, _, _, _]) hZ dX4_takeSpeeds_61 rfl rfl ?_
              refine f_iinc (L' := [_, _, _, _, _, _, _]) hZ dX4_takeSpeeds_62 rfl rfl ?_
              refine f_goto (tgt := 12) hZ dX4_takeSpeeds_65 rfl ?_
              refine f_forget (L' := [_, _, _, _, _, .null, .null]) ⟨Or.inl rfl, Or.inl rfl, Or.inl rfl, Or.inl rfl, Or.inl rfl, Or.inr rfl, Or.inr rfl, trivial⟩ ?_
              have hh := ih2 (e + 1) (by omega) (by omega)
              rw [show w * 3 + (e + 1) = w * 3 + e + 1 by omega, itZ_succ _ _ (by omega : 0 ≤ w * 3 + e)] at hh
              first | (rw [show spC M q (w * 3 + e) (itZ (spC M q) 0 (w * 3 + e)) = itZ (spC M q) 0 (w * 3 + e) from if_pos (by omega), ← spM_sk (by omega) (by omega)] at hh; exact hh) | (rw [show spC M q (w * 3 + e) (itZ (spC M q) 0 (w * 3 + e)) = 1 from if_neg (by omega), ← spM_st (by omega) rfl] at hh; exact hh)
      refine f_iload_n hZ dX4_takeSpeeds_4 rfl ?_
      refine f_iconst hZ dX4_takeSpeeds_5 ?_
      refine f_ige (tgt := 74) hZ dX4_takeSpeeds_6 rfl (by omega) (by omega) (fun h6 => ?_) (fun h6 => ?_)
      · exfalso; omega
      · refine f_iconst hZ dX4_takeSpeeds_9 ?_
        refine f_istore (L' := [_, _, _, _, _, _, _]) hZ dX4_takeSpeeds_10 rfl rfl ?_
        have hh := inner 3 0 (by omega) (by omega)
        rw [Int.add_zero] at hh
        exact hh
  refine f_iconst hZ dX4_takeSpeeds_0 ?_
  refine f_istore_n (L' := [_, _, _, _, _, _, _]) hZ dX4_takeSpeeds_1 rfl rfl ?_
  refine f_iconst hZ dX4_takeSpeeds_2 ?_
  refine f_istore_n (L' := [_, _, _, _, _, _, _]) hZ dX4_takeSpeeds_3 rfl rfl ?_
  have hh := loop 4 0 (by omega) (by omega)
  rw [show (0 : Int) * 3 = 0 from rfl, spM_0] at hh
  exact hh

/-! noteApart -/
def naF (en : Int) : Int → fM → fM := fun j N => up N 42 (en - N 47 j) 1
def naM (M : fM) (dp en k : Int) : fM := itMZ (naF en) (up (up M 47 dp en) 42 en 1) k
theorem naM_c {M : fM} {dp en k : Int} {c : Nat} (h : c ≠ 42) : naM M dp en k c = up M 47 dp en c :=
  itMZ_inv (fun N => N c = up M 47 dp en c) (up_ne h) (fun j N hN => by unfold naF; rw [up_ne h]; exact hN) k
theorem naM_e {M : fM} {dp en k j : Int} (h : j ≠ dp) : naM M dp en k 47 j = M 47 j := by rw [naM_c (by decide), up_app, if_neg (by omega)]
set_option maxRecDepth 20000 in
set_option maxHeartbeats 4000000 in
theorem t_X4_noteApart {X : fX} {M : fM} {d : Nat} {dp en : Int} (hdp : 0 ≤ dp ∧ dp ≤ 4) (hen : 0 ≤ en ∧ en < 403) (hev : ∀ j, 0 ≤ j → j < dp → 0 ≤ M 47 j ∧ M 47 j ≤ en) : fC X d mX4_noteApart [.ref (xa X 39), .int (iv dp), .int (iv en)] M (QV fun M' => M' = naM M dp en dp) := by
  refine fC.of (L := [_, _, _, _]) (by decide +kernel) rfl (Nat.le_of_ble_eq_true rfl) (fun Z hZ hR => ?_)
  have loop : ∀ (m : Nat) (w : Int) , 0 ≤ w → w + m = dp →  fG X mX4_noteApart Z 16 [.ref (xa X 39), .int (iv dp), .int (iv en), .int (iv w)] [] (naM M dp en w) := by
    intro m
    induction m with
    | zero =>
      intro w  h0 hw 
      refine f_iload_n hZ dX4_noteApart_16 rfl ?_
      refine f_iload_n hZ dX4_noteApart_17 rfl ?_
      refine f_ige (tgt := 41) hZ dX4_noteApart_18 rfl (by omega) (by omega) (fun h18 => ?_) (fun h18 => ?_)
      · exact f_retV hZ hR dX4_noteApart_41 rfl (by have hwe : w = dp := (by omega); subst hwe; rfl)
      · exfalso; omega
    | succ m ih =>
      intro w  h0 hw 
      refine f_iload_n hZ dX4_noteApart_16 rfl ?_
      refine f_iload_n hZ dX4_noteApart_17 rfl ?_
      refine f_ige (tgt := 41) hZ dX4_noteApart_18 rfl (by omega) (by omega) (fun h18 => ?_) (fun h18 => ?_)
      · exfalso; omega
      · have hj := hev w (by omega) (by omega)
        refine f_aload_n hZ dX4_noteApart_21 rfl ?_
        refine gX4_18 hZ dX4_noteApart_22 ?_
        refine f_iload_n hZ dX4_noteApart_25 rfl ?_
        refine f_aload_n hZ dX4_noteApart_26 rfl ?_
        refine gX4_33 hZ dX4_noteApart_27 ?_
        refine f_iload_n hZ dX4_noteApart_30 rfl ?_
        refine f_iaload hZ dX4_noteApart_31 (by first | rfl | exact hC.t1 | exact hC.t2 | exact hC.t3 | exact hC.t4 | exact hC.t5) (by first | rfl | exact hC.l1 | exact hC.l2 | exact hC.l3 | exact hC.l4 | exact hC.l5) (by omega) (by omega) (fun r31 => ?_)
        try simp only [naM_e (show w ≠ dp by omega)] at r31 ⊢
        refine f_isub hZ dX4_noteApart_32 ?_
        refine f_iconst hZ dX4_noteApart_33 ?_
        refine f_iastore hZ dX4_noteApart_34 (by first | rfl | exact hC.t1 | exact hC.t2 | exact hC.t3 | exact hC.t4 | exact hC.t5) (by first | rfl | exact hC.l1 | exact hC.l2 | exact hC.l3 | exact hC.l4 | exact hC.l5) (by omega) (by omega) (by omega) ?_
        refine f_iinc (L' := [_, _, _, _]) hZ dX4_noteApart_35 rfl rfl ?_
        refine f_goto (tgt := 16) hZ dX4_noteApart_38 rfl ?_
        have hh := ih (w + 1) (by omega) (by omega)
        unfold naM at hh
        rw [itMZ_succ _ _ h0] at hh
        rw [show naF en w (itMZ (naF en) (up (up M 47 dp en) 42 en 1) w) = up (naM M dp en w) 42 (en - M 47 w) 1 from by show up (naM M dp en w) 42 (en - naM M dp en w 47 w) 1 = _; rw [naM_e (by omega)]] at hh
        exact hh
  refine f_aload_n hZ dX4_noteApart_0 rfl ?_
  refine gX4_33 hZ dX4_noteApart_1 ?_
  refine f_iload_n hZ dX4_noteApart_4 rfl ?_
  refine f_iload_n hZ dX4_noteApart_5 rfl ?_
  refine f_iastore hZ dX4_noteApart_6 (by first | rfl | exact hC.t1 | exact hC.t2 | exact hC.t3 | exact hC.t4 | exact hC.t5) (by first | rfl | exact hC.l1 | exact hC.l2 | exact hC.l3 | exact hC.l4 | exact hC.l5) (by omega) (by omega) (by omega) ?_
  refine f_aload_n hZ dX4_noteApart_7 rfl ?_
  refine gX4_18 hZ dX4_noteApart_8 ?_
  refine f_iload_n hZ dX4_noteApart_11 rfl ?_
  refine f_iconst hZ dX4_noteApart_12 ?_
  refine f_iastore hZ dX4_noteApart_13 (by first | rfl | exact hC.t1 | exact hC.t2 | exact hC.t3 | exact hC.t4 | exact hC.t5) (by first | rfl | exact hC.l1 | exact hC.l2 | exact hC.l3 | exact hC.l4 | exact hC.l5) (by omega) (by omega) (by omega) ?_
  refine f_iconst hZ dX4_noteApart_14 ?_
  refine f_istore_n (L' := [_, _, _, _]) hZ dX4_noteApart_15 rfl rfl ?_
  exact loop dp.toNat 0 (by omega) (by omega)

