/-! Texts: a row put in place of another; steps; what a text says -/
def ro (M : fM) (c : Nat) (f : Int → Int) : fM := fun c' => if c' = c then f else M c'
theorem ro_eq {M : fM} {c : Nat} {f : Int → Int} : ro M c f c = f := if_pos rfl
theorem ro_ne {M : fM} {c c' : Nat} {f : Int → Int} (h : c' ≠ c) : ro M c f c' = M c' := if_neg h
theorem ro_id {M : fM} {c : Nat} : ro M c (M c) = M := by
  funext c'; unfold ro
  by_cases h : c' = c
  · rw [if_pos h, h]
  · rw [if_neg h]
theorem up_ro {M : fM} {c : Nat} {i v : Int} : up M c i v = ro M c (updI (M c) i v) := by
  funext c' i'
  unfold up ro updI
  by_cases h : c' = c
  · subst h; simp
  · simp [h]
theorem ro_ro {M : fM} {c : Nat} {f g : Int → Int} : ro (ro M c f) c g = ro M c g := by
  funext c'; unfold ro; split <;> rfl
theorem f_wrap {X : fX} {y : fY} {Z : fZ} {pc : Nat} {L st : List Value} {M : fM} {a : Int} (k : fG X y Z pc L (.int (iv (wI a)) :: st) M) : fG X y Z pc L (.int (iv a) :: st) M := by
  unfold wI at k; rw [iv_of] at k; exact k
def nameM (M : fM) (a b c d e f : Int) : fM := up (up (up (up (up (up M 35 0 a) 35 1 b) 35 2 c) 35 3 d) 35 4 e) 35 5 f
def nmf (a b c d e f : Int) : Int → Int := fun i => if i = 0 then a else if i = 1 then b else if i = 2 then c else if i = 3 then d else if i = 4 then e else f
theorem nameM_ne {M : fM} {a b c d e f : Int} {k : Nat} (h : k ≠ 35) : nameM M a b c d e f k = M k := by
  unfold nameM
  rw [up_ne h, up_ne h, up_ne h, up_ne h, up_ne h, up_ne h]
theorem nameM_35 {M : fM} {a b c d e f i : Int} (h0 : 0 ≤ i) (h1 : i < 6) : nameM M a b c d e f 35 i = nmf a b c d e f i := by
  rcases (show i = 0 ∨ i = 1 ∨ i = 2 ∨ i = 3 ∨ i = 4 ∨ i = 5 by omega) with e1 | e1 | e1 | e1 | e1 | e1 <;> subst e1 <;> simp [nameM, up, nmf]
set_option maxRecDepth 20000 in
set_option maxHeartbeats 4000000 in
theorem t_X5_name {X : fX} {M : fM} {d : Nat} {a b c l e f : Int} (ha : rg a) (hb : rg b) (hc : rg c) (hl : rg l) (he : rg e) (hf : rg f) : fC X d mX5_name [.ref (xa X 19), .int (iv a), .int (iv b), .int (iv c), .int (iv l), .int (iv e), .int (iv f)] M (QV fun M' => M' = nameM M a b c l e f) := by
  refine fC.of (L := [_, _, _, _, _, _, _]) (by decide +kernel) rfl (Nat.le_of_ble_eq_true rfl) (fun Z hZ hR => ?_)
  refine f_aload_n hZ dX5_name_0 rfl ?_
  refine gX5_25 hZ dX5_name_1 ?_
  refine f_iconst hZ dX5_name_4 ?_
  refine f_iload_n hZ dX5_name_5 rfl ?_
  refine f_iastore hZ dX5_name_6 (by first | rfl | exact hC.t1 | exact hC.t2 | exact hC.t3 | exact hC.t4 | exact hC.t5) (by first | rfl | exact hC.l1 | exact hC.l2 | exact hC.l3 | exact hC.l4 | exact hC.l5) (by omega) (by omega) (by omega) ?_
  refine f_aload_n hZ dX5_name_7 rfl ?_
  refine gX5_25 hZ dX5_name_8 ?_
  refine f_iconst hZ dX5_name_11 ?_
  refine f_iload_n hZ dX5_name_12 rfl ?_
  refine f_iastore hZ dX5_name_13 (by first | rfl | exact hC.t1 | exact hC.t2 | exact hC.t3 | exact hC.t4 | exact hC.t5) (by first | rfl | exact hC.l1 | exact hC.l2 | exact hC.l3 | exact hC.l4 | exact hC.l5) (by omega) (by omega) (by omega) ?_
  refine f_aload_n hZ dX5_name_14 rfl ?_
  refine gX5_25 hZ dX5_name_15 ?_
  refine f_iconst hZ dX5_name_18 ?_
  refine f_iload_n hZ dX5_name_19 rfl ?_
  refine f_iastore hZ dX5_name_20 (by first | rfl | exact hC.t1 | exact hC.t2 | exact hC.t3 | exact hC.t4 | exact hC.t5) (by first | rfl | exact hC.l1 | exact hC.l2 | exact hC.l3 | exact hC.l4 | exact hC.l5) (by omega) (by omega) (by omega) ?_
  refine f_aload_n hZ dX5_name_21 rfl ?_
  refine gX5_25 hZ dX5_name_22 ?_
  refine f_iconst hZ dX5_name_25 ?_
  refine f_iload hZ dX5_name_26 rfl ?_
  refine f_iastore hZ dX5_name_28 (by first | rfl | exact hC.t1 | exact hC.t2 | exact hC.t3 | exact hC.t4 | exact hC.t5) (by first | rfl | exact hC.l1 | exact hC.l2 | exact hC.l3 | exact hC.l4 | exact hC.l5) (by omega) (by omega) (by omega) ?_
  refine f_aload_n hZ dX5_name_29 rfl ?_
  refine gX5_25 hZ dX5_name_30 ?_
  refine f_iconst hZ dX5_name_33 ?_
  refine f_iload hZ dX5_name_34 rfl ?_
  refine f_iastore hZ dX5_name_36 (by first | rfl | exact hC.t1 | exact hC.t2 | exact hC.t3 | exact hC.t4 | exact hC.t5) (by first | rfl | exact hC.l1 | exact hC.l2 | exact hC.l3 | exact hC.l4 | exact hC.l5) (by omega) (by omega) (by omega) ?_
  refine f_aload_n hZ dX5_name_37 rfl ?_
  refine gX5_25 hZ dX5_name_38 ?_
  refine f_iconst hZ dX5_name_41 ?_
  refine f_iload hZ dX5_name_42 rfl ?_
  refine f_iastore hZ dX5_name_44 (by first | rfl | exact hC.t1 | exact hC.t2 | exact hC.t3 | exact hC.t4 | exact hC.t5) (by first | rfl | exact hC.l1 | exact hC.l2 | exact hC.l3 | exact hC.l4 | exact hC.l5) (by omega) (by omega) (by omega) ?_
  exact f_retV hZ hR dX5_name_45 rfl (by rfl)

theorem stp_full {nm : Int → Int} {c t : Int} {k : Int → Int} (h0 : 0 ≤ c) (h1 : 160 ≤ t) : stp nm c (t, k) = (t, k) := (if_pos h0).trans (if_pos h1)
theorem stp_push {nm : Int → Int} {c t : Int} {k : Int → Int} (h0 : 0 ≤ c) (h1 : t < 160) : stp nm c (t, k) = (t + 1, updI k t (if 10000 ≤ c ∧ c < 10006 then nm (c - 10000) else c)) := (if_pos h0).trans (if_neg (show ¬ 160 ≤ t by omega))
theorem stp_bin {nm : Int → Int} {c t : Int} {k : Int → Int} (h0 : c ≤ -1 ∧ c ≠ -8 ∧ c ≠ -9) (h1 : 2 ≤ t) : stp nm c (t, k) = (t - 1, updI k (t - 2) (binZ c (k (t - 2)) (k (t - 1)))) := by
  unfold stp
  rw [if_neg (by omega), if_neg (by omega), if_neg (by omega), if_neg (by show ¬ t - 2 < 0; omega)]
theorem stp_bin0 {nm : Int → Int} {c t : Int} {k : Int → Int} (h0 : c ≤ -1 ∧ c ≠ -8 ∧ c ≠ -9) (h1 : t < 2) : stp nm c (t, k) = (t, k) := by
  unfold stp
  rw [if_neg (by omega), if_neg (by omega), if_neg (by omega), if_pos (by show t - 2 < 0; omega)]
theorem stp_not {nm : Int → Int} {t : Int} {k : Int → Int} (h1 : 1 ≤ t) : stp nm (-8) (t, k) = (t, updI k (t - 1) (notZ (k (t - 1)))) := by
  unfold stp
  rw [if_neg (by omega), if_pos rfl, if_neg (by show ¬ t - 1 < 0; omega)]
theorem stp_not0 {nm : Int → Int} {t : Int} {k : Int → Int} (h1 : t < 1) : stp nm (-8) (t, k) = (t, k) := by
  unfold stp
  rw [if_neg (by omega), if_pos rfl, if_pos (by show t - 1 < 0; omega)]
theorem stp_neg {nm : Int → Int} {t : Int} {k : Int → Int} (h1 : 1 ≤ t) : stp nm (-9) (t, k) = (t, updI k (t - 1) (wI (-(k (t - 1))))) := by
  unfold stp
  rw [if_neg (by omega), if_neg (by omega), if_pos rfl, if_neg (by show ¬ t - 1 < 0; omega)]
theorem stp_neg0 {nm : Int → Int} {t : Int} {k : Int → Int} (h1 : t < 1) : stp nm (-9) (t, k) = (t, k) := by
  unfold stp
  rw [if_neg (by omega), if_neg (by omega), if_pos rfl, if_pos (by show t - 1 < 0; omega)]
theorem stp_rg {nm : Int → Int} {c : Int} {q : Int × (Int → Int)} (h : 0 ≤ q.1 ∧ q.1 ≤ 160) : 0 ≤ (stp nm c q).1 ∧ (stp nm c q).1 ≤ 160 := by
  unfold stp
  by_cases h0 : 0 ≤ c
  · rw [if_pos h0]
    by_cases h1 : 160 ≤ q.1
    · rw [if_pos h1]; exact h
    · rw [if_neg h1]; show 0 ≤ q.1 + 1 ∧ q.1 + 1 ≤ 160; omega
  · rw [if_neg h0]
    by_cases h2 : c = -8
    · rw [if_pos h2]; by_cases h1 : q.1 - 1 < 0
      · rw [if_pos h1]; exact h
      · rw [if_neg h1]; exact h
    · rw [if_neg h2]
      by_cases h3 : c = -9
      · rw [if_pos h3]; by_cases h1 : q.1 - 1 < 0
        · rw [if_pos h1]; exact h
        · rw [if_neg h1]; exact h
      · rw [if_neg h3]; by_cases h1 : q.1 - 2 < 0
        · rw [if_pos h1]; exact h
        · rw [if_neg h1]; show 0 ≤ q.1 - 1 ∧ q.1 - 1 ≤ 160; omega
abbrev stQ (M : fM) (c t r : Int) (M' : fM) : Prop := M' = ro M 36 (stp (M 35) c (t, M 36)).2 ∧ r = (stp (M 35) c (t, M 36)).1
theorem stQ_same {M : fM} {c t : Int} (h : stp (M 35) c (t, M 36) = (t, M 36)) : stQ M c t t M := by
  unfold stQ; rw [h]; exact ⟨ro_id.symm, rfl⟩
theorem stQ_up {M : fM} {c t t' i v r : Int} (h : stp (M 35) c (t, M 36) = (t', updI (M 36) i v)) (hr : r = t') : stQ M c t r (up M 36 i v) := by
  unfold stQ; rw [h]; exact ⟨up_ro, hr⟩
theorem bz1 (a b : Int) : binZ (-1) a b = wI (a + b) := by simp [binZ]
theorem bz2 (a b : Int) : binZ (-2) a b = wI (a - b) := by simp [binZ]
theorem bz3 (a b : Int) : binZ (-3) a b = wI (a * b) := by simp [binZ]
theorem bz4 (a b : Int) : binZ (-4) a b = if a < b then 1 else 0 := by simp [binZ]
theorem bz5 (a b : Int) : binZ (-5) a b = if a = b then 1 else 0 := by simp [binZ]
theorem bz6 (a b : Int) : binZ (-6) a b = if a ≠ 0 ∧ b ≠ 0 then 1 else 0 := by simp [binZ]
theorem bzo {c : Int} (h : c < -9) (a b : Int) : binZ c a b = if a ≠ 0 ∨ b ≠ 0 then 1 else 0 := by
  unfold binZ
  rw [if_neg (by omega), if_neg (by omega), if_neg (by omega), if_neg (by omega), if_neg (by omega), if_neg (by omega)]
theorem bz7 (a b : Int) : binZ (-7) a b = if a ≠ 0 ∨ b ≠ 0 then 1 else 0 := by simp [binZ]
set_option maxRecDepth 20000 in
set_option maxHeartbeats 4000000 in
theorem t_X5_step {X : fX} {M : fM} {d : Nat} {c t : Int} (hc : rg c) (ht : 0 ≤ t ∧ t ≤ 160) : fC X d mX5_step [.ref (xa X 19), .int (iv c), .int (iv t)] M (QI fun r M' => stQ M c t r M') := by
  refine fC.of (L := [_, _, _, _, _, _, _]) (by decide +kernel) rfl (Nat.le_of_ble_eq_true rfl) (fun Z hZ hR => ?_)
  rcases (show 0 ≤ c ∨ c < -9 ∨ c = -9 ∨ c = -8 ∨ c = -7 ∨ c = -6 ∨ c = -5 ∨ c = -4 ∨ c = -3 ∨ c = -2 ∨ c = -1 by omega) with hcc | hcc | rfl | rfl | rfl | rfl | rfl | rfl | rfl | rfl | rfl
  · refine f_iload_n hZ dX5_step_0 rfl ?_
    refine f_lt (tgt := 13) hZ dX5_step_1 rfl (by omega) (fun h1 => ?_) (fun h1 => ?_)
    · exfalso; omega
    · refine f_iload_n hZ dX5_step_4 rfl ?_
      refine f_sipush hZ dX5_step_5 ?_
      refine f_ilt (tgt := 13) hZ dX5_step_8 rfl (by omega) (by omega) (fun h8 => ?_) (fun h8 => ?_)
      · refine f_iload_n hZ dX5_step_13 rfl ?_
        refine f_lt (tgt := 53) hZ dX5_step_14 rfl (by omega) (fun h14 => ?_) (fun h14 => ?_)
        · exfalso; omega
        · refine f_iload_n hZ dX5_step_17 rfl ?_
          refine f_sipush hZ dX5_step_18 ?_
          refine f_isub hZ dX5_step_21 ?_
          refine f_istore_n (L' := [_, _, _, _, _, _, _]) hZ dX5_step_22 rfl rfl ?_
          refine f_aload_n hZ dX5_step_23 rfl ?_
          refine gX5_28 hZ dX5_step_24 ?_
          refine f_iload_n hZ dX5_step_27 rfl ?_
          refine f_iload_n hZ dX5_step_28 rfl ?_
          refine f_lt (tgt := 47) hZ dX5_step_29 rfl (by omega) (fun h29 => ?_) (fun h29 => ?_)
          · refine f_iload_n hZ dX5_step_47 rfl ?_
            refine f_iastore hZ dX5_step_48 (by first | rfl | exact hC.t1 | exact hC.t2 | exact hC.t3 | exact hC.t4 | exact hC.t5) (by first | rfl | exact hC.l1 | exact hC.l2 | exact hC.l3 | exact hC.l4 | exact hC.l5) (by omega) (by omega) (by omega) ?_
            refine f_iload_n hZ dX5_step_49 rfl ?_
            refine f_iconst hZ dX5_step_50 ?_
            refine f_iadd hZ dX5_step_51 ?_
            exact f_retI hZ hR dX5_step_52 rfl (by omega) (by first | (exfalso; omega) | exact stQ_same (stp_full (by omega) (by omega)) | (refine stQ_up (t' := t + 1) ((stp_push (by omega) (by omega)).trans ?_) rfl; first | rw [if_pos (by omega)] | rw [if_neg (by omega)]))
          · refine f_iload_n hZ dX5_step_32 rfl ?_
            refine f_bipush hZ dX5_step_33 ?_
            refine f_ige (tgt := 47) hZ dX5_step_35 rfl (by omega) (by omega) (fun h35 => ?_) (fun h35 => ?_)
            · refine f_iload_n hZ dX5_step_47 rfl ?_
              refine f_iastore hZ dX5_step_48 (by first | rfl | exact hC.t1 | exact hC.t2 | exact hC.t3 | exact hC.t4 | exact hC.t5) (by first | rfl | exact hC.l1 | exact hC.l2 | exact hC.l3 | exact hC.l4 | exact hC.l5) (by omega) (by omega) (by omega) ?_
              refine f_iload_n hZ dX5_step_49 rfl ?_
              refine f_iconst hZ dX5_step_50 ?_
              refine f_iadd hZ dX5_step_51 ?_
              exact f_retI hZ hR dX5_step_52 rfl (by omega) (by first | (exfalso; omega) | exact stQ_same (stp_full (by omega) (by omega)) | (refine stQ_up (t' := t + 1) ((stp_push (by omega) (by omega)).trans ?_) rfl; first | rw [if_pos (by omega)] | rw [if_neg (by omega)]))
            · refine f_aload_n hZ dX5_step_38 rfl ?_
              refine gX5_25 hZ dX5_step_39 ?_
              refine f_iload_n hZ dX5_step_42 rfl ?_
              refine f_iaload hZ dX5_step_43 (by first | rfl | exact hC.t1 | exact hC.t2 | exact hC.t3 | exact hC.t4 | exact hC.t5) (by first | rfl | exact hC.l1 | exact hC.l2 | exact hC.l3 | exact hC.l4 | exact hC.l5) (by omega) (by omega) (fun r43 => ?_)
              refine f_goto (tgt := 48) hZ dX5_step_44 rfl ?_
              refine f_iastore hZ dX5_step_48 (by first | rfl | exact hC.t1 | exact hC.t2 | exact hC.t3 | exact hC.t4 | exact hC.t5) (by first | rfl | exact hC.l1 | exact hC.l2 | exact hC.l3 | exact hC.l4 | exact hC.l5) (by omega) (by omega) (by omega) ?_
              refine f_iload_n hZ dX5_step_49 rfl ?_
              refine f_iconst hZ dX5_step_50 ?_
              refine f_iadd hZ dX5_step_51 ?_
              exact f_retI hZ hR dX5_step_52 rfl (by omega) (by first | (exfalso; omega) | exact stQ_same (stp_full (by omega) (by omega)) | (refine stQ_up (t' := t + 1) ((stp_push (by omega) (by omega)).trans ?_) rfl; first | rw [if_pos (by omega)] | rw [if_neg (by omega)]))
      · refine f_iload_n hZ dX5_step_11 rfl ?_
        exact f_retI hZ hR dX5_step_12 rfl (by omega) (by first | (exfalso; omega) | exact stQ_same (stp_full (by omega) (by omega)) | (refine stQ_up (t' := t + 1) ((stp_push (by omega) (by omega)).trans ?_) rfl; first | rw [if_pos (by omega)] | rw [if_neg (by omega)]))
  · refine f_iload_n hZ dX5_step_0 rfl ?_
    refine f_lt (tgt := 13) hZ dX5_step_1 rfl (by first | omega | exact rg_of _) (fun h1 => ?_) (fun h1 => ?_)
    · refine f_iload_n hZ dX5_step_13 rfl ?_
      refine f_lt (tgt := 53) hZ dX5_step_14 rfl (by first | omega | exact rg_of _) (fun h14 => ?_) (fun h14 => ?_)
      · refine f_iload_n hZ dX5_step_53 rfl ?_
        refine f_bipush hZ dX5_step_54 ?_
        refine f_ieq (tgt := 65) hZ dX5_step_56 rfl (by first | omega | exact rg_of _) (by first | omega | exact rg_of _) (fun h56 => ?_) (fun h56 => ?_)
        · refine f_iconst hZ dX5_step_65 ?_
          refine f_goto (tgt := 70) hZ dX5_step_66 rfl ?_
          refine f_istore_n (L' := [_, _, _, _, _, _, _]) hZ dX5_step_70 rfl rfl ?_
          refine f_iload_n hZ dX5_step_71 rfl ?_
          refine f_eq (tgt := 81) hZ dX5_step_72 rfl (by first | omega | exact rg_of _) (fun h72 => ?_) (fun h72 => ?_)
          · exfalso; omega
          · refine f_iload_n hZ dX5_step_75 rfl ?_
            refine f_iconst hZ dX5_step_76 ?_
            refine f_isub hZ dX5_step_77 ?_
            refine f_goto (tgt := 84) hZ dX5_step_78 rfl ?_
            refine f_istore (L' := [_, _, _, _, _, _, _]) hZ dX5_step_84 rfl rfl ?_
            refine f_iload hZ dX5_step_86 rfl ?_
            refine f_ge (tgt := 93) hZ dX5_step_88 rfl (by first | omega | exact rg_of _) (fun h88 => ?_) (fun h88 => ?_)
            · refine f_aload_n hZ dX5_step_93 rfl ?_
              refine gX5_28 hZ dX5_step_94 ?_
              refine f_iload hZ dX5_step_97 rfl ?_
              refine f_iaload hZ dX5_step_99 (by first | rfl | exact hC.t1 | exact hC.t2 | exact hC.t3 | exact hC.t4 | exact hC.t5) (by first | rfl | exact hC.l1 | exact hC.l2 | exact hC.l3 | exact hC.l4 | exact hC.l5) (by first | omega | exact rg_of _) (by first | omega | exact rg_of _) (fun r99 => ?_)
              refine f_istore (L' := [_, _, _, _, _, _, _]) hZ dX5_step_100 rfl rfl ?_
              refine f_aload_n hZ dX5_step_102 rfl ?_
              refine gX5_28 hZ dX5_step_103 ?_
              refine f_iload_n hZ dX5_step_106 rfl ?_
              refine f_iconst hZ dX5_step_107 ?_
              refine f_isub hZ dX5_step_108 ?_
              refine f_iaload hZ dX5_step_109 (by first | rfl | exact hC.t1 | exact hC.t2 | exact hC.t3 | exact hC.t4 | exact hC.t5) (by first | rfl | exact hC.l1 | exact hC.l2 | exact hC.l3 | exact hC.l4 | exact hC.l5) (by first | omega | exact rg_of _) (by first | omega | exact rg_of _) (fun r109 => ?_)
              refine f_istore (L' := [_, _, _, _, _, _, _]) hZ dX5_step_110 rfl rfl ?_
              refine f_iload_n hZ dX5_step_112 rfl ?_
              rcases (show (c < -9 ∨ -1 < c) ∨ c = -9 ∨ c = -8 ∨ c = -7 ∨ c = -6 ∨ c = -5 ∨ c = -4 ∨ c = -3 ∨ c = -2 ∨ c = -1 by omega) with h113 | h113 | h113 | h113 | h113 | h113 | h113 | h113 | h113 | h113
              · refine f_tswOut (tgt := 311) hZ dX5_step_113 (by first | omega | exact rg_of _) h113 rfl ?_
                refine f_aload_n hZ dX5_step_311 rfl ?_
                refine gX5_28 hZ dX5_step_312 ?_
                refine f_iload hZ dX5_step_315 rfl ?_
                refine f_iload hZ dX5_step_317 rfl ?_
                refine f_ne (tgt := 327) hZ dX5_step_319 rfl (by first | omega | exact rg_of _) (fun h319 => ?_) (fun h319 => ?_)
                · refine f_iconst hZ dX5_step_327 ?_
                  refine f_goto (tgt := 332) hZ dX5_step_328 rfl ?_
                  refine f_iastore hZ dX5_step_332 (by first | rfl | exact hC.t1 | exact hC.t2 | exact hC.t3 | exact hC.t4 | exact hC.t5) (by first | rfl | exact hC.l1 | exact hC.l2 | exact hC.l3 | exact hC.l4 | exact hC.l5) (by first | omega | exact rg_of _) (by first | omega | exact rg_of _) (by first | omega | exact rg_of _) ?_
                  refine f_iload hZ dX5_step_333 rfl ?_
                  refine f_iconst hZ dX5_step_335 ?_
                  refine f_iadd hZ dX5_step_336 ?_
                  exact f_retI hZ hR dX5_step_337 rfl (by first | omega | exact rg_of _) (by first | (exfalso; omega) | exact stQ_same (stp_bin0 (by omega) (by omega)) | (refine stQ_up (t' := t - 1) ((stp_bin (by omega) (by omega)).trans ?_) (by omega); rw [bzo (by omega)]; first | rw [if_pos (by omega)] | rw [if_neg (by omega)]))
                · refine f_iload hZ dX5_step_322 rfl ?_
                  refine f_eq (tgt := 331) hZ dX5_step_324 rfl (by first | omega | exact rg_of _) (fun h324 => ?_) (fun h324 => ?_)
                  · refine f_iconst hZ dX5_step_331 ?_
                    refine f_iastore hZ dX5_step_332 (by first | rfl | exact hC.t1 | exact hC.t2 | exact hC.t3 | exact hC.t4 | exact hC.t5) (by first | rfl | exact hC.l1 | exact hC.l2 | exact hC.l3 | exact hC.l4 | exact hC.l5) (by first | omega | exact rg_of _) (by first | omega | exact rg_of _) (by first | omega | exact rg_of _) ?_
                    refine f_iload hZ dX5_step_333 rfl ?_
                    refine f_iconst hZ dX5_step_335 ?_
                    refine f_iadd hZ dX5_step_336 ?_
                    exact f_retI hZ hR dX5_step_337 rfl (by first | omega | exact rg_of _) (by first | (exfalso; omega) | exact stQ_same (stp_bin0 (by omega) (by omega)) | (refine stQ_up (t' := t - 1) ((stp_bin (by omega) (by omega)).trans ?_) (by omega); rw [bzo (by omega)]; first | rw [if_pos (by omega)] | rw [if_neg (by omega)]))
                  · refine f_iconst hZ dX5_step_327 ?_
                    refine f_goto (tgt := 332) hZ dX5_step_328 rfl ?_
                    refine f_iastore hZ dX5_step_332 (by first | rfl | exact hC.t1 | exact hC.t2 | exact hC.t3 | exact hC.t4 | exact hC.t5) (by first | rfl | exact hC.l1 | exact hC.l2 | exact hC.l3 | exact hC.l4 | exact hC.l5) (by first | omega | exact rg_of _) (by first | omega | exact rg_of _) (by first | omega | exact rg_of _) ?_
                    refine f_iload hZ dX5_step_333 rfl ?_
                    refine f_iconst hZ dX5_step_335 ?_
                    refine f_iadd hZ dX5_step_336 ?_
                    exact f_retI hZ hR dX5_step_337 rfl (by first | omega | exact rg_of _) (by first | (exfalso; omega) | exact stQ_same (stp_bin0 (by omega) (by omega)) | (refine stQ_up (t' := t - 1) ((stp_bin (by omega) (by omega)).trans ?_) (by omega); rw [bzo (by omega)]; first | rw [if_pos (by omega)] | rw [if_neg (by omega)]))
              · refine f_tswIn (tgt := 184) hZ (-9) dX5_step_113 h113 (by omega) (by omega) (by omega) rfl rfl ?_
                refine f_aload_n hZ dX5_step_184 rfl ?_
                refine gX5_28 hZ dX5_step_185 ?_
                refine f_iload hZ dX5_step_188 rfl ?_
                refine f_iload hZ dX5_step_190 rfl ?_
                refine f_ineg hZ dX5_step_192 ?_
                refine f_wrap ?_
                refine f_iastore hZ dX5_step_193 (by first | rfl | exact hC.t1 | exact hC.t2 | exact hC.t3 | exact hC.t4 | exact hC.t5) (by first | rfl | exact hC.l1 | exact hC.l2 | exact hC.l3 | exact hC.l4 | exact hC.l5) (by first | omega | exact rg_of _) (by first | omega | exact rg_of _) (by first | omega | exact rg_of _) ?_
                refine f_goto (tgt := 333) hZ dX5_step_194 rfl ?_
                refine f_iload hZ dX5_step_333 rfl ?_
                refine f_iconst hZ dX5_step_335 ?_
                refine f_iadd hZ dX5_step_336 ?_
                exact f_retI hZ hR dX5_step_337 rfl (by first | omega | exact rg_of _) (by first | (exfalso; omega) | exact stQ_same (stp_bin0 (by omega) (by omega)) | (refine stQ_up (t' := t - 1) ((stp_bin (by omega) (by omega)).trans ?_) (by omega); rw [bzo (by omega)]; first | rw [if_pos (by omega)] | rw [if_neg (by omega)]))
              · refine f_tswIn (tgt := 164) hZ (-8) dX5_step_113 h113 (by omega) (by omega) (by omega) rfl rfl ?_
                refine f_aload_n hZ dX5_step_164 rfl ?_
                refine gX5_28 hZ dX5_step_165 ?_
                refine f_iload hZ dX5_step_168 rfl ?_
                refine f_iload hZ dX5_step_170 rfl ?_
                refine f_ne (tgt := 179) hZ dX5_step_172 rfl (by first | omega | exact rg_of _) (fun h172 => ?_) (fun h172 => ?_)
                · refine f_iconst hZ dX5_step_179 ?_
                  refine f_iastore hZ dX5_step_180 (by first | rfl | exact hC.t1 | exact hC.t2 | exact hC.t3 | exact hC.t4 | exact hC.t5) (by first | rfl | exact hC.l1 | exact hC.l2 | exact hC.l3 | exact hC.l4 | exact hC.l5) (by first | omega | exact rg_of _) (by first | omega | exact rg_of _) (by first | omega | exact rg_of _) ?_
                  refine f_goto (tgt := 333) hZ dX5_step_181 rfl ?_
                  refine f_iload hZ dX5_step_333 rfl ?_
                  refine f_iconst hZ dX5_step_335 ?_
                  refine f_iadd hZ dX5_step_336 ?_
                  exact f_retI hZ hR dX5_step_337 rfl (by first | omega | exact rg_of _) (by first | (exfalso; omega) | exact stQ_same (stp_bin0 (by omega) (by omega)) | (refine stQ_up (t' := t - 1) ((stp_bin (by omega) (by omega)).trans ?_) (by omega); rw [bzo (by omega)]; first | rw [if_pos (by omega)] | rw [if_neg (by omega)]))
                · refine f_iconst hZ dX5_step_175 ?_
                  refine f_goto (tgt := 180) hZ dX5_step_176 rfl ?_
                  refine f_iastore hZ dX5_step_180 (by first | rfl | exact hC.t1 | exact hC.t2 | exact hC.t3 | exact hC.t4 | exact hC.t5) (by first | rfl | exact hC.l1 | exact hC.l2 | exact hC.l3 | exact hC.l4 | exact hC.l5) (by first | omega | exact rg_of _) (by first | omega | exact rg_of _) (by first | omega | exact rg_of _) ?_
                  refine f_goto (tgt := 333) hZ dX5_step_181 rfl ?_
                  refine f_iload hZ dX5_step_333 rfl ?_
                  refine f_iconst hZ dX5_step_335 ?_
                  refine f_iadd hZ dX5_step_336 ?_
                  exact f_retI hZ hR dX5_step_337 rfl (by first | omega | exact rg_of _) (by first | (exfalso; omega) | exact stQ_same (stp_bin0 (by omega) (by omega)) | (refine stQ_up (t' := t - 1) ((stp_bin (by omega) (by omega)).trans ?_) (by omega); rw [bzo (by omega)]; first | rw [if_pos (by omega)] | rw [if_neg (by omega)]))
              · refine f_tswIn (tgt := 311) hZ (-7) dX5_step_113 h113 (by omega) (by omega) (by omega) rfl rfl ?_
                refine f_aload_n hZ dX5_step_311 rfl ?_
                refine gX5_28 hZ dX5_step_312 ?_
                refine f_iload hZ dX5_step_315 rfl ?_
                refine f_iload hZ dX5_step_317 rfl ?_
                refine f_ne (tgt := 327) hZ dX5_step_319 rfl (by first | omega | exact rg_of _) (fun h319 => ?_) (fun h319 => ?_)
                · refine f_iconst hZ dX5_step_327 ?_
                  refine f_goto (tgt := 332) hZ dX5_step_328 rfl ?_
                  refine f_iastore hZ dX5_step_332 (by first | rfl | exact hC.t1 | exact hC.t2 | exact hC.t3 | exact hC.t4 | exact hC.t5) (by first | rfl | exact hC.l1 | exact hC.l2 | exact hC.l3 | exact hC.l4 | exact hC.l5) (by first | omega | exact rg_of _) (by first | omega | exact rg_of _) (by first | omega | exact rg_of _) ?_
                  refine f_iload hZ dX5_step_333 rfl ?_
                  refine f_iconst hZ dX5_step_335 ?_
                  refine f_iadd hZ dX5_step_336 ?_
                  exact f_retI hZ hR dX5_step_337 rfl (by first | omega | exact rg_of _) (by first | (exfalso; omega) | exact stQ_same (stp_bin0 (by omega) (by omega)) | (refine stQ_up (t' := t - 1) ((stp_bin (by omega) (by omega)).trans ?_) (by omega); rw [bzo (by omega)]; first | rw [if_pos (by omega)] | rw [if_neg (by omega)]))
                · refine f_iload hZ dX5_step_322 rfl ?_
                  refine f_eq (tgt := 331) hZ dX5_step_324 rfl (by first | omega | exact rg_of _) (fun h324 => ?_) (fun h324 => ?_)
                  · refine f_iconst hZ dX5_step_331 ?_
                    refine f_iastore hZ dX5_step_332 (by first | rfl | exact hC.t1 | exact hC.t2 | exact hC.t3 | exact hC.t4 | exact hC.t5) (by first | rfl | exact hC.l1 | exact hC.l2 | exact hC.l3 | exact hC.l4 | exact hC.l5) (by first | omega | exact rg_of _) (by first | omega | exact rg_of _) (by first | omega | exact rg_of _) ?_
                    refine f_iload hZ dX5_step_333 rfl ?_
                    refine f_iconst hZ dX5_step_335 ?_
                    refine f_iadd hZ dX5_step_336 ?_
                    exact f_retI hZ hR dX5_step_337 rfl (by first | omega | exact rg_of _) (by first | (exfalso; omega) | exact stQ_same (stp_bin0 (by omega) (by omega)) | (refine stQ_up (t' := t - 1) ((stp_bin (by omega) (by omega)).trans ?_) (by omega); rw [bzo (by omega)]; first | rw [if_pos (by omega)] | rw [if_neg (by omega)]))
                  · refine f_iconst hZ dX5_step_327 ?_
                    refine f_goto (tgt := 332) hZ dX5_step_328 rfl ?_
                    refine f_iastore hZ dX5_step_332 (by first | rfl | exact hC.t1 | exact hC.t2 | exact hC.t3 | exact hC.t4 | exact hC.t5) (by first | rfl | exact hC.l1 | exact hC.l2 | exact hC.l3 | exact hC.l4 | exact hC.l5) (by first | omega | exact rg_of _) (by first | omega | exact rg_of _) (by first | omega | exact rg_of _) ?_
                    refine f_iload hZ dX5_step_333 rfl ?_
                    refine f_iconst hZ dX5_step_335 ?_
                    refine f_iadd hZ dX5_step_336 ?_
                    exact f_retI hZ hR dX5_step_337 rfl (by first | omega | exact rg_of _) (by first | (exfalso; omega) | exact stQ_same (stp_bin0 (by omega) (by omega)) | (refine stQ_up (t' := t - 1) ((stp_bin (by omega) (by omega)).trans ?_) (by omega); rw [bzo (by omega)]; first | rw [if_pos (by omega)] | rw [if_neg (by omega)]))
              · refine f_tswIn (tgt := 286) hZ (-6) dX5_step_113 h113 (by omega) (by omega) (by omega) rfl rfl ?_
                refine f_aload_n hZ dX5_step_286 rfl ?_
                refine gX5_28 hZ dX5_step_287 ?_
                refine f_iload hZ dX5_step_290 rfl ?_
                refine f_iload hZ dX5_step_292 rfl ?_
                refine f_eq (tgt := 306) hZ dX5_step_294 rfl (by first | omega | exact rg_of _) (fun h294 => ?_) (fun h294 => ?_)
                · refine f_iconst hZ dX5_step_306 ?_
                  refine f_iastore hZ dX5_step_307 (by first | rfl | exact hC.t1 | exact hC.t2 | exact hC.t3 | exact hC.t4 | exact hC.t5) (by first | rfl | exact hC.l1 | exact hC.l2 | exact hC.l3 | exact hC.l4 | exact hC.l5) (by first | omega | exact rg_of _) (by first | omega | exact rg_of _) (by first | omega | exact rg_of _) ?_
                  refine f_goto (tgt := 333) hZ dX5_step_308 rfl ?_
                  refine f_iload hZ dX5_step_333 rfl ?_
                  refine f_iconst hZ dX5_step_335 ?_
                  refine f_iadd hZ dX5_step_336 ?_
                  exact f_retI hZ hR dX5_step_337 rfl (by first | omega | exact rg_of _) (by first | (exfalso; omega) | exact stQ_same (stp_bin0 (by omega) (by omega)) | (refine stQ_up (t' := t - 1) ((stp_bin (by omega) (by omega)).trans ?_) (by omega); rw [bzo (by omega)]; first | rw [if_pos (by omega)] | rw [if_neg (by omega)]))
                · refine f_iload hZ dX5_step_297 rfl ?_
                  refine f_eq (tgt := 306) hZ dX5_step_299 rfl (by first | omega | exact rg_of _) (fun h299 => ?_) (fun h299 => ?_)
                  · refine f_iconst hZ dX5_step_306 ?_
                    refine f_iastore hZ dX5_step_307 (by first | rfl | exact hC.t1 | exact hC.t2 | exact hC.t3 | exact hC.t4 | exact hC.t5) (by first | rfl | exact hC.l1 | exact hC.l2 | exact hC.l3 | exact hC.l4 | exact hC.l5) (by first | omega | exact rg_of _) (by first | omega | exact rg_of _) (by first | omega | exact rg_of _) ?_
                    refine f_goto (tgt := 333) hZ dX5_step_308 rfl ?_
                    refine f_iload hZ dX5_step_333 rfl ?_
                    refine f_iconst hZ dX5_step_335 ?_
                    refine f_iadd hZ dX5_step_336 ?_
                    exact f_retI hZ hR dX5_step_337 rfl (by first | omega | exact rg_of _) (by first | (exfalso; omega) | exact stQ_same (stp_bin0 (by omega) (by omega)) | (refine stQ_up (t' := t - 1) ((stp_bin (by omega) (by omega)).trans ?_) (by omega); rw [bzo (by omega)]; first | rw [if_pos (by omega)] | rw [if_neg (by omega)]))
                  · refine f_iconst hZ dX5_step_302 ?_
                    refine f_goto (tgt := 307) hZ dX5_step_303 rfl ?_
                    refine f_iastore hZ dX5_step_307 (by first | rfl | exact hC.t1 | exact hC.t2 | exact hC.t3 | exact hC.t4 | exact hC.t5) (by first | rfl | exact hC.l1 | exact hC.l2 | exact hC.l3 | exact hC.l4 | exact hC.l5) (by first | omega | exact rg_of _) (by first | omega | exact rg_of _) (by first | omega | exact rg_of _) ?_
                    refine f_goto (tgt := 333) hZ dX5_step_308 rfl ?_
                    refine f_iload hZ dX5_step_333 rfl ?_
                    refine f_iconst hZ dX5_step_335 ?_
                    refine f_iadd hZ dX5_step_336 ?_
                    exact f_retI hZ hR dX5_step_337 rfl (by first | omega | exact rg_of _) (by first | (exfalso; omega) | exact stQ_same (stp_bin0 (by omega) (by omega)) | (refine stQ_up (t' := t - 1) ((stp_bin (by omega) (by omega)).trans ?_) (by omega); rw [bzo (by omega)]; first | rw [if_pos (by omega)] | rw [if_neg (by omega)]))
              · refine f_tswIn (tgt := 264) hZ (-5) dX5_step_113 h113 (by omega) (by omega) (by omega) rfl rfl ?_
                refine f_aload_n hZ dX5_step_264 rfl ?_
                refine gX5_28 hZ dX5_step_265 ?_
                refine f_iload hZ dX5_step_268 rfl ?_
                refine f_iload hZ dX5_step_270 rfl ?_
                refine f_iload hZ dX5_step_272 rfl ?_
                refine f_ine (tgt := 281) hZ dX5_step_274 rfl (by first | omega | exact rg_of _) (by first | omega | exact rg_of _) (fun h274 => ?_) (fun h274 => ?_)
                · refine f_iconst hZ dX5_step_281 ?_
                  refine f_iastore hZ dX5_step_282 (by first | rfl | exact hC.t1 | exact hC.t2 | exact hC.t3 | exact hC.t4 | exact hC.t5) (by first | rfl | exact hC.l1 | exact hC.l2 | exact hC.l3 | exact hC.l4 | exact hC.l5) (by first | omega | exact rg_of _) (by first | omega | exact rg_of _) (by first | omega | exact rg_of _) ?_
                  refine f_goto (tgt := 333) hZ dX5_step_283 rfl ?_
                  refine f_iload hZ dX5_step_333 rfl ?_
                  refine f_iconst hZ dX5_step_335 ?_
                  refine f_iadd hZ dX5_step_336 ?_
                  exact f_retI hZ hR dX5_step_337 rfl (by first | omega | exact rg_of _) (by first | (exfalso; omega) | exact stQ_same (stp_bin0 (by omega) (by omega)) | (refine stQ_up (t' := t - 1) ((stp_bin (by omega) (by omega)).trans ?_) (by omega); rw [bzo (by omega)]; first | rw [if_pos (by omega)] | rw [if_neg (by omega)]))
                · refine f_iconst hZ dX5_step_277 ?_
                  refine f_goto (tgt := 282) hZ dX5_step_278 rfl ?_
                  refine f_iastore hZ dX5_step_282 (by first | rfl | exact hC.t1 | exact hC.t2 | exact hC.t3 | exact hC.t4 | exact hC.t5) (by first | rfl | exact hC.l1 | exact hC.l2 | exact hC.l3 | exact hC.l4 | exact hC.l5) (by first | omega | exact rg_of _) (by first | omega | exact rg_of _) (by first | omega | exact rg_of _) ?_
                  refine f_goto (tgt := 333) hZ dX5_step_283 rfl ?_
                  refine f_iload hZ dX5_step_333 rfl ?_
                  refine f_iconst hZ dX5_step_335 ?_
                  refine f_iadd hZ dX5_step_336 ?_
                  exact f_retI hZ hR dX5_step_337 rfl (by first | omega | exact rg_of _) (by first | (exfalso; omega) | exact stQ_same (stp_bin0 (by omega) (by omega)) | (refine stQ_up (t' := t - 1) ((stp_bin (by omega) (by omega)).trans ?_) (by omega); rw [bzo (by omega)]; first | rw [if_pos (by omega)] | rw [if_neg (by omega)]))
              · refine f_tswIn (tgt := 242) hZ (-4) dX5_step_113 h113 (by omega) (by omega) (by omega) rfl rfl ?_
                refine f_aload_n hZ dX5_step_242 rfl ?_
                refine gX5_28 hZ dX5_step_243 ?_
                refine f_iload hZ dX5_step_246 rfl ?_
                refine f_iload hZ dX5_step_248 rfl ?_
                refine f_iload hZ dX5_step_250 rfl ?_
                refine f_ige (tgt := 259) hZ dX5_step_252 rfl (by first | omega | exact rg_of _) (by first | omega | exact rg_of _) (fun h252 => ?_) (fun h252 => ?_)
                · refine f_iconst hZ dX5_step_259 ?_
                  refine f_iastore hZ dX5_step_260 (by first | rfl | exact hC.t1 | exact hC.t2 | exact hC.t3 | exact hC.t4 | exact hC.t5) (by first | rfl | exact hC.l1 | exact hC.l2 | exact hC.l3 | exact hC.l4 | exact hC.l5) (by first | omega | exact rg_of _) (by first | omega | exact rg_of _) (by first | omega | exact rg_of _) ?_
                  refine f_goto (tgt := 333) hZ dX5_step_261 rfl ?_
                  refine f_iload hZ dX5_step_333 rfl ?_
                  refine f_iconst hZ dX5_step_335 ?_
                  refine f_iadd hZ dX5_step_336 ?_
                  exact f_retI hZ hR dX5_step_337 rfl (by first | omega | exact rg_of _) (by first | (exfalso; omega) | exact stQ_same (stp_bin0 (by omega) (by omega)) | (refine stQ_up (t' := t - 1) ((stp_bin (by omega) (by omega)).trans ?_) (by omega); rw [bzo (by omega)]; first | rw [if_pos (by omega)] | rw [if_neg (by omega)]))
                · refine f_iconst hZ dX5_step_255 ?_
                  refine f_goto (tgt := 260) hZ dX5_step_256 rfl ?_
                  refine f_iastore hZ dX5_step_260 (by first | rfl | exact hC.t1 | exact hC.t2 | exact hC.t3 | exact hC.t4 | exact hC.t5) (by first | rfl | exact hC.l1 | exact hC.l2 | exact hC.l3 | exact hC.l4 | exact hC.l5) (by first | omega | exact rg_of _) (by first | omega | exact rg_of _) (by first | omega | exact rg_of _) ?_
                  refine f_goto (tgt := 333) hZ dX5_step_261 rfl ?_
                  refine f_iload hZ dX5_step_333 rfl ?_
                  refine f_iconst hZ dX5_step_335 ?_
                  refine f_iadd hZ dX5_step_336 ?_
                  exact f_retI hZ hR dX5_step_337 rfl (by first | omega | exact rg_of _) (by first | (exfalso; omega) | exact stQ_same (stp_bin0 (by omega) (by omega)) | (refine stQ_up (t' := t - 1) ((stp_bin (by omega) (by omega)).trans ?_) (by omega); rw [bzo (by omega)]; first | rw [if_pos (by omega)] | rw [if_neg (by omega)]))
              · refine f_tswIn (tgt := 227) hZ (-3) dX5_step_113 h113 (by omega) (by omega) (by omega) rfl rfl ?_
                refine f_aload_n hZ dX5_step_227 rfl ?_
                refine gX5_28 hZ dX5_step_228 ?_
                refine f_iload hZ dX5_step_231 rfl ?_
                refine f_iload hZ dX5_step_233 rfl ?_
                refine f_iload hZ dX5_step_235 rfl ?_
                refine f_imul hZ dX5_step_237 ?_
                refine f_wrap ?_
                refine f_iastore hZ dX5_step_238 (by first | rfl | exact hC.t1 | exact hC.t2 | exact hC.t3 | exact hC.t4 | exact hC.t5) (by first | rfl | exact hC.l1 | exact hC.l2 | exact hC.l3 | exact hC.l4 | exact hC.l5) (by first | omega | exact rg_of _) (by first | omega | exact rg_of _) (by first | omega | exact rg_of _) ?_
                refine f_goto (tgt := 333) hZ dX5_step_239 rfl ?_
                refine f_iload hZ dX5_step_333 rfl ?_
                refine f_iconst hZ dX5_step_335 ?_
                refine f_iadd hZ dX5_step_336 ?_
                exact f_retI hZ hR dX5_step_337 rfl (by first | omega | exact rg_of _) (by first | (exfalso; omega) | exact stQ_same (stp_bin0 (by omega) (by omega)) | (refine stQ_up (t' := t - 1) ((stp_bin (by omega) (by omega)).trans ?_) (by omega); rw [bzo (by omega)]; first | rw [if_pos (by omega)] | rw [if_neg (by omega)]))
              · refine f_tswIn (tgt := 212) hZ (-2) dX5_step_113 h113 (by omega) (by omega) (by omega) rfl rfl ?_
                refine f_aload_n hZ dX5_step_212 rfl ?_
                refine gX5_28 hZ dX5_step_213 ?_
                refine f_iload hZ dX5_step_216 rfl ?_
                refine f_iload hZ dX5_step_218 rfl ?_
                refine f_iload hZ dX5_step_220 rfl ?_
                refine f_isub hZ dX5_step_222 ?_
                refine f_wrap ?_
                refine f_iastore hZ dX5_step_223 (by first | rfl | exact hC.t1 | exact hC.t2 | exact hC.t3 | exact hC.t4 | exact hC.t5) (by first | rfl | exact hC.l1 | exact hC.l2 | exact hC.l3 | exact hC.l4 | exact hC.l5) (by first | omega | exact rg_of _) (by first | omega | exact rg_of _) (by first | omega | exact rg_of _) ?_
                refine f_goto (tgt := 333) hZ dX5_step_224 rfl ?_
                refine f_iload hZ dX5_step_333 rfl ?_
                refine f_iconst hZ dX5_step_335 ?_
                refine f_iadd hZ dX5_step_336 ?_
                exact f_retI hZ hR dX5_step_337 rfl (by first | omega | exact rg_of _) (by first | (exfalso; omega) | exact stQ_same (stp_bin0 (by omega) (by omega)) | (refine stQ_up (t' := t - 1) ((stp_bin (by omega) (by omega)).trans ?_) (by omega); rw [bzo (by omega)]; first | rw [if_pos (by omega)] | rw [if_neg (by omega)]))
              · refine f_tswIn (tgt := 197) hZ (-1) dX5_step_113 h113 (by omega) (by omega) (by omega) rfl rfl ?_
                refine f_aload_n hZ dX5_step_197 rfl ?_
                refine gX5_28 hZ dX5_step_198 ?_
                refine f_iload hZ dX5_step_201 rfl ?_
                refine f_iload hZ dX5_step_203 rfl ?_
                refine f_iload hZ dX5_step_205 rfl ?_
                refine f_iadd hZ dX5_step_207 ?_
                refine f_wrap ?_
                refine f_iastore hZ dX5_step_208 (by first | rfl | exact hC.t1 | exact hC.t2 | exact hC.t3 | exact hC.t4 | exact hC.t5) (by first | rfl | exact hC.l1 | exact hC.l2 | exact hC.l3 | exact hC.l4 | exact hC.l5) (by first | omega | exact rg_of _) (by first | omega | exact rg_of _) (by first | omega | exact rg_of _) ?_
                refine f_goto (tgt := 333) hZ dX5_step_209 rfl ?_
                refine f_iload hZ dX5_step_333 rfl ?_
                refine f_iconst hZ dX5_step_335 ?_
                refine f_iadd hZ dX5_step_336 ?_
                exact f_retI hZ hR dX5_step_337 rfl (by first | omega | exact rg_of _) (by first | (exfalso; omega) | exact stQ_same (stp_bin0 (by omega) (by omega)) | (refine stQ_up (t' := t - 1) ((stp_bin (by omega) (by omega)).trans ?_) (by omega); rw [bzo (by omega)]; first | rw [if_pos (by omega)] | rw [if_neg (by omega)]))
            · refine f_iload_n hZ dX5_step_91 rfl ?_
              exact f_retI hZ hR dX5_step_92 rfl (by first | omega | exact rg_of _) (by first | (exfalso; omega) | exact stQ_same (stp_bin0 (by omega) (by omega)) | (refine stQ_up (t' := t - 1) ((stp_bin (by omega) (by omega)).trans ?_) (by omega); rw [bzo (by omega)]; first | rw [if_pos (by omega)] | rw [if_neg (by omega)]))
        · refine f_iload_n hZ dX5_step_59 rfl ?_
          refine f_bipush hZ dX5_step_60 ?_
          refine f_ine (tgt := 69) hZ dX5_step_62 rfl (by first | omega | exact rg_of _) (by first | omega | exact rg_of _) (fun h62 => ?_) (fun h62 => ?_)
          · refine f_iconst hZ dX5_step_69 ?_
            refine f_istore_n (L' := [_, _, _, _, _, _, _]) hZ dX5_step_70 rfl rfl ?_
            refine f_iload_n hZ dX5_step_71 rfl ?_
            refine f_eq (tgt := 81) hZ dX5_step_72 rfl (by first | omega | exact rg_of _) (fun h72 => ?_) (fun h72 => ?_)
            · refine f_iload_n hZ dX5_step_81 rfl ?_
              refine f_iconst hZ dX5_step_82 ?_
              refine f_isub hZ dX5_step_83 ?_
              refine f_istore (L' := [_, _, _, _, _, _, _]) hZ dX5_step_84 rfl rfl ?_
              refine f_iload hZ dX5_step_86 rfl ?_
              refine f_ge (tgt := 93) hZ dX5_step_88 rfl (by first | omega | exact rg_of _) (fun h88 => ?_) (fun h88 => ?_)
              · refine f_aload_n hZ dX5_step_93 rfl ?_
                refine gX5_28 hZ dX5_step_94 ?_
                refine f_iload hZ dX5_step_97 rfl ?_
                refine f_iaload hZ dX5_step_99 (by first | rfl | exact hC.t1 | exact hC.t2 | exact hC.t3 | exact hC.t4 | exact hC.t5) (by first | rfl | exact hC.l1 | exact hC.l2 | exact hC.l3 | exact hC.l4 | exact hC.l5) (by first | omega | exact rg_of _) (by first | omega | exact rg_of _) (fun r99 => ?_)
                refine f_istore (L' := [_, _, _, _, _, _, _]) hZ dX5_step_100 rfl rfl ?_
                refine f_aload_n hZ dX5_step_102 rfl ?_
                refine gX5_28 hZ dX5_step_103 ?_
                refine f_iload_n hZ dX5_step_106 rfl ?_
                refine f_iconst hZ dX5_step_107 ?_
                refine f_isub hZ dX5_step_108 ?_
                refine f_iaload hZ dX5_step_109 (by first | rfl | exact hC.t1 | exact hC.t2 | exact hC.t3 | exact hC.t4 | exact hC.t5) (by first | rfl | exact hC.l1 | exact hC.l2 | exact hC.l3 | exact hC.l4 | exact hC.l5) (by first | omega | exact rg_of _) (by first | omega | exact rg_of _) (fun r109 => ?_)
                refine f_istore (L' := [_, _, _, _, _, _, _]) hZ dX5_step_110 rfl rfl ?_
                refine f_iload_n hZ dX5_step_112 rfl ?_
                rcases (show (c < -9 ∨ -1 < c) ∨ c = -9 ∨ c = -8 ∨ c = -7 ∨ c = -6 ∨ c = -5 ∨ c = -4 ∨ c = -3 ∨ c = -2 ∨ c = -1 by omega) with h113 | h113 | h113 | h113 | h113 | h113 | h113 | h113 | h113 | h113
                · refine f_tswOut (tgt := 311) hZ dX5_step_113 (by first | omega | exact rg_of _) h113 rfl ?_
                  refine f_aload_n hZ dX5_step_311 rfl ?_
                  refine gX5_28 hZ dX5_step_312 ?_
                  refine f_iload hZ dX5_step_315 rfl ?_
                  refine f_iload hZ dX5_step_317 rfl ?_
                  refine f_ne (tgt := 327) hZ dX5_step_319 rfl (by first | omega | exact rg_of _) (fun h319 => ?_) (fun h319 => ?_)
                  · refine f_iconst hZ dX5_step_327 ?_
                    refine f_goto (tgt := 332) hZ dX5_step_328 rfl ?_
                    refine f_iastore hZ dX5_step_332 (by first | rfl | exact hC.t1 | exact hC.t2 | exact hC.t3 | exact hC.t4 | exact hC.t5) (by first | rfl | exact hC.l1 | exact hC.l2 | exact hC.l3 | exact hC.l4 | exact hC.l5) (by first | omega | exact rg_of _) (by first | omega | exact rg_of _) (by first | omega | exact rg_of _) ?_
                    refine f_iload hZ dX5_step_333 rfl ?_
                    refine f_iconst hZ dX5_step_335 ?_
                    refine f_iadd hZ dX5_step_336 ?_
                    exact f_retI hZ hR dX5_step_337 rfl (by first | omega | exact rg_of _) (by first | (exfalso; omega) | exact stQ_same (stp_bin0 (by omega) (by omega)) | (refine stQ_up (t' := t - 1) ((stp_bin (by omega) (by omega)).trans ?_) (by omega); rw [bzo (by omega)]; first | rw [if_pos (by omega)] | rw [if_neg (by omega)]))
                  · refine f_iload hZ dX5_step_322 rfl ?_
                    refine f_eq (tgt := 331) hZ dX5_step_324 rfl (by first | omega | exact rg_of _) (fun h324 => ?_) (fun h324 => ?_)
                    · refine f_iconst hZ dX5_step_331 ?_
                      refine f_iastore hZ dX5_step_332 (by first | rfl | exact hC.t1 | exact hC.t2 | exact hC.t3 | exact hC.t4 | exact hC.t5) (by first | rfl | exact hC.l1 | exact hC.l2 | exact hC.l3 | exact hC.l4 | exact hC.l5) (by first | omega | exact rg_of _) (by first | omega | exact rg_of _) (by first | omega | exact rg_of _) ?_
                      refine f_iload hZ dX5_step_333 rfl ?_
                      refine f_iconst hZ dX5_step_335 ?_
                      refine f_iadd hZ dX5_step_336 ?_
                      exact f_retI hZ hR dX5_step_337 rfl (by first | omega | exact rg_of _) (by first | (exfalso; omega) | exact stQ_same (stp_bin0 (by omega) (by omega)) | (refine stQ_up (t' := t - 1) ((stp_bin (by omega) (by omega)).trans ?_) (by omega); rw [bzo (by omega)]; first | rw [if_pos (by omega)] | rw [if_neg (by omega)]))
                    · refine f_iconst hZ dX5_step_327 ?_
                      refine f_goto (tgt := 332) hZ dX5_step_328 rfl ?_
                      refine f_iastore hZ dX5_step_332 (by first | rfl | exact hC.t1 | exact hC.t2 | exact hC.t3 | exact hC.t4 | exact hC.t5) (by first | rfl | exact hC.l1 | exact hC.l2 | exact hC.l3 | exact hC.l4 | exact hC.l5) (by first | omega | exact rg_of _) (by first | omega | exact rg_of _) (by first | omega | exact rg_of _) ?_
                      refine f_iload hZ dX5_step_333 rfl ?_
                      refine f_iconst hZ dX5_step_335 ?_
                      refine f_iadd hZ dX5_step_336 ?_
                      exact f_retI hZ hR dX5_step_337 rfl (by first | omega | exact rg_of _) (by first | (exfalso; omega) | exact stQ_same (stp_bin0 (by omega) (by omega)) | (refine stQ_up (t' := t - 1) ((stp_bin (by omega) (by omega)).trans ?_) (by omega); rw [bzo (by omega)]; first | rw [if_pos (by omega)] | rw [if_neg (by omega)]))
                · refine f_tswIn (tgt := 184) hZ (-9) dX5_step_113 h113 (by omega) (by omega) (by omega) rfl rfl ?_
                  refine f_aload_n hZ dX5_step_184 rfl ?_
                  refine gX5_28 hZ dX5_step_185 ?_
                  refine f_iload hZ dX5_step_188 rfl ?_
                  refine f_iload hZ dX5_step_190 rfl ?_
                  refine f_ineg hZ dX5_step_192 ?_
                  refine f_wrap ?_
                  refine f_iastore hZ dX5_step_193 (by first | rfl | exact hC.t1 | exact hC.t2 | exact hC.t3 | exact hC.t4 | exact hC.t5) (by first | rfl | exact hC.l1 | exact hC.l2 | exact hC.l3 | exact hC.l4 | exact hC.l5) (by first | omega | exact rg_of _) (by first | omega | exact rg_of _) (by first | omega | exact rg_of _) ?_
                  refine f_goto (tgt := 333) hZ dX5_step_194 rfl ?_
                  refine f_iload hZ dX5_step_333 rfl ?_
                  refine f_iconst hZ dX5_step_335 ?_
                  refine f_iadd hZ dX5_step_336 ?_
                  exact f_retI hZ hR dX5_step_337 rfl (by first | omega | exact rg_of _) (by first | (exfalso; omega) | exact stQ_same (stp_bin0 (by omega) (by omega)) | (refine stQ_up (t' := t - 1) ((stp_bin (by omega) (by omega)).trans ?_) (by omega); rw [bzo (by omega)]; first | rw [if_pos (by omega)] | rw [if_neg (by omega)]))
                · refine f_tswIn (tgt := 164) hZ (-8) dX5_step_113 h113 (by omega) (by omega) (by omega) rfl rfl ?_
                  refine f_aload_n hZ dX5_step_164 rfl ?_
                  refine gX5_28 hZ dX5_step_165 ?_
                  refine f_iload hZ dX5_step_168 rfl ?_
                  refine f_iload hZ dX5_step_170 rfl ?_
                  refine f_ne (tgt := 179) hZ dX5_step_172 rfl (by first | omega | exact rg_of _) (fun h172 => ?_) (fun h172 => ?_)
                  · refine f_iconst hZ dX5_step_179 ?_
                    refine f_iastore hZ dX5_step_180 (by first | rfl | exact hC.t1 | exact hC.t2 | exact hC.t3 | exact hC.t4 | exact hC.t5) (by first | rfl | exact hC.l1 | exact hC.l2 | exact hC.l3 | exact hC.l4 | exact hC.l5) (by first | omega | exact rg_of _) (by first | omega | exact rg_of _) (by first | omega | exact rg_of _) ?_
                    refine f_goto (tgt := 333) hZ dX5_step_181 rfl ?_
                    refine f_iload hZ dX5_step_333 rfl ?_
                    refine f_iconst hZ dX5_step_335 ?_
                    refine f_iadd hZ dX5_step_336 ?_
                    exact f_retI hZ hR dX5_step_337 rfl (by first | omega | exact rg_of _) (by first | (exfalso; omega) | exact stQ_same (stp_bin0 (by omega) (by omega)) | (refine stQ_up (t' := t - 1) ((stp_bin (by omega) (by omega)).trans ?_) (by omega); rw [bzo (by omega)]; first | rw [if_pos (by omega)] | rw [if_neg (by omega)]))
                  · refine f_iconst hZ dX5_step_175 ?_
                    refine f_goto (tgt := 180) hZ dX5_step_176 rfl ?_
                    refine f_iastore hZ dX5_step_180 (by first | rfl | exact hC.t1 | exact hC.t2 | exact hC.t3 | exact hC.t4 | exact hC.t5) (by first | rfl | exact hC.l1 | exact hC.l2 | exact hC.l3 | exact hC.l4 | exact hC.l5) (by first | omega | exact rg_of _) (by first | omega | exact rg_of _) (by first | omega | exact rg_of _) ?_
                    refine f_goto (tgt := 333) hZ dX5_step_181 rfl ?_
                    refine f_iload hZ dX5_step_333 rfl ?_
                    refine f_iconst hZ dX5_step_335 ?_
                    refine f_iadd hZ dX5_step_336 ?_
                    exact f_retI hZ hR dX5_step_337 rfl (by first | omega | exact rg_of _) (by first | (exfalso; omega) | exact stQ_same (stp_bin0 (by omega) (by omega)) | (refine stQ_up (t' := t - 1) ((stp_bin (by omega) (by omega)).trans ?_) (by omega); rw [bzo (by omega)]; first | rw [if_pos (by omega)] | rw [if_neg (by omega)]))
                · refine f_tswIn (tgt := 311) hZ (-7) dX5_step_113 h113 (by omega) (by omega) (by omega) rfl rfl ?_
                  refine f_aload_n hZ dX5_step_311 rfl ?_
                  refine gX5_28 hZ dX5_step_312 ?_
                  refine f_iload hZ dX5_step_315 rfl ?_
                  refine f_iload hZ dX5_step_317 rfl ?_
                  refine f_ne (tgt := 327) hZ dX5_step_319 rfl (by first | omega | exact rg_of _) (fun h319 => ?_) (fun h319 => ?_)
                  · refine f_iconst hZ dX5_step_327 ?_
                    refine f_goto (tgt := 332) hZ dX5_step_328 rfl ?_
                    refine f_iastore hZ dX5_step_332 (by first | rfl | exact hC.t1 | exact hC.t2 | exact hC.t3 | exact hC.t4 | exact hC.t5) (by first | rfl | exact hC.l1 | exact hC.l2 | exact hC.l3 | exact hC.l4 | exact hC.l5) (by first | omega | exact rg_of _) (by first | omega | exact rg_of _) (by first | omega | exact rg_of _) ?_
                    refine f_iload hZ dX5_step_333 rfl ?_
                    refine f_iconst hZ dX5_step_335 ?_
                    refine f_iadd hZ dX5_step_336 ?_
                    exact f_retI hZ hR dX5_step_337 rfl (by first | omega | exact rg_of _) (by first | (exfalso; omega) | exact stQ_same (stp_bin0 (by omega) (by omega)) | (refine stQ_up (t' := t - 1) ((stp_bin (by omega) (by omega)).trans ?_) (by omega); rw [bzo (by omega)]; first | rw [if_pos (by omega)] | rw [if_neg (by omega)]))
                  · refine f_iload hZ dX5_step_322 rfl ?_
                    refine f_eq (tgt := 331) hZ dX5_step_324 rfl (by first | omega | exact rg_of _) (fun h324 => ?_) (fun h324 => ?_)
                    · refine f_iconst hZ dX5_step_331 ?_
                      refine f_iastore hZ dX5_step_332 (by first | rfl | exact hC.t1 | exact hC.t2 | exact hC.t3 | exact hC.t4 | exact hC.t5) (by first | rfl | exact hC.l1 | exact hC.l2 | exact hC.l3 | exact hC.l4 | exact hC.l5) (by first | omega | exact rg_of _) (by first | omega | exact rg_of _) (by first | omega | exact rg_of _) ?_
                      refine f_iload hZ dX5_step_333 rfl ?_
                      refine f_iconst hZ dX5_step_335 ?_
                      refine f_iadd hZ dX5_step_336 ?_
                      exact f_retI hZ hR dX5_step_337 rfl (by first | omega | exact rg_of _) (by first | (exfalso; omega) | exact stQ_same (stp_bin0 (by omega) (by omega)) | (refine stQ_up (t' := t - 1) ((stp_bin (by omega) (by omega)).trans ?_) (by omega); rw [bzo (by omega)]; first | rw [if_pos (by omega)] | rw [if_neg (by omega)]))
                    · refine f_iconst hZ dX5_step_327 ?_
                      refine f_goto (tgt := 332) hZ dX5_step_328 rfl ?_
                      refine f_iastore hZ dX5_step_332 (by first | rfl | exact hC.t1 | exact hC.t2 | exact hC.t3 | exact hC.t4 | exact hC.t5) (by first | rfl | exact hC.l1 | exact hC.l2 | exact hC.l3 | exact hC.l4 | exact hC.l5) (by first | omega | exact rg_of _) (by first | omega | exact rg_of _) (by first | omega | exact rg_of _) ?_
                      refine f_iload hZ dX5_step_333 rfl ?_
                      refine f_iconst hZ dX5_step_335 ?_
                      refine f_iadd hZ dX5_step_336 ?_
                      exact f_retI hZ hR dX5_step_337 rfl (by first | omega | exact rg_of _) (by first | (exfalso; omega) | exact stQ_same (stp_bin0 (by omega) (by omega)) | (refine stQ_up (t' := t - 1) ((stp_bin (by omega) (by omega)).trans ?_) (by omega); rw [bzo (by omega)]; first | rw [if_pos (by omega)] | rw [if_neg (by omega)]))
                · refine f_tswIn (tgt := 286) hZ (-6) dX5_step_113 h113 (by omega) (by omega) (by omega) rfl rfl ?_
                  refine f_aload_n hZ dX5_step_286 rfl ?_
                  refine gX5_28 hZ dX5_step_287 ?_
                  refine f_iload hZ dX5_step_290 rfl ?_
                  refine f_iload hZ dX5_step_292 rfl ?_
                  refine f_eq (tgt := 306) hZ dX5_step_294 rfl (by first | omega | exact rg_of _) (fun h294 => ?_) (fun h294 => ?_)
                  · refine f_iconst hZ dX5_step_306 ?_
                    refine f_iastore hZ dX5_step_307 (by first | rfl | exact hC.t1 | exact hC.t2 | exact hC.t3 | exact hC.t4 | exact hC.t5) (by first | rfl | exact hC.l1 | exact hC.l2 | exact hC.l3 | exact hC.l4 | exact hC.l5) (by first | omega | exact rg_of _) (by first | omega | exact rg_of _) (by first | omega | exact rg_of _) ?_
                    refine f_goto (tgt := 333) hZ dX5_step_308 rfl ?_
                    refine f_iload hZ dX5_step_333 rfl ?_
                    refine f_iconst hZ dX5_step_335 ?_
                    refine f_iadd hZ dX5_step_336 ?_
                    exact f_retI hZ hR dX5_step_337 rfl (by first | omega | exact rg_of _) (by first | (exfalso; omega) | exact stQ_same (stp_bin0 (by omega) (by omega)) | (refine stQ_up (t' := t - 1) ((stp_bin (by omega) (by omega)).trans ?_) (by omega); rw [bzo (by omega)]; first | rw [if_pos (by omega)] | rw [if_neg (by omega)]))
                  · refine f_iload hZ dX5_step_297 rfl ?_
                    refine f_eq (tgt := 306) hZ dX5_step_299 rfl (by first | omega | exact rg_of _) (fun h299 => ?_) (fun h299 => ?_)
                    · refine f_iconst hZ dX5_step_306 ?_
                      refine f_iastore hZ dX5_step_307 (by first | rfl | exact hC.t1 | exact hC.t2 | exact hC.t3 | exact hC.t4 | exact hC.t5) (by first | rfl | exact hC.l1 | exact hC.l2 | exact hC.l3 | exact hC.l4 | exact hC.l5) (by first | omega | exact rg_of _) (by first | omega | exact rg_of _) (by first | omega | exact rg_of _) ?_
                      refine f_goto (tgt := 333) hZ dX5_step_308 rfl ?_
                      refine f_iload hZ dX5_step_333 rfl ?_
                      refine f_iconst hZ dX5_step_335 ?_
                      refine f_iadd hZ dX5_step_336 ?_
                      exact f_retI hZ hR dX5_step_337 rfl (by first | omega | exact rg_of _) (by first | (exfalso; omega) | exact stQ_same (stp_bin0 (by omega) (by omega)) | (refine stQ_up (t' := t - 1) ((stp_bin (by omega) (by omega)).trans ?_) (by omega); rw [bzo (by omega)]; first | rw [if_pos (by omega)] | rw [if_neg (by omega)]))
                    · refine f_iconst hZ dX5_step_302 ?_
                      refine f_goto (tgt := 307) hZ dX5_step_303 rfl ?_
                      refine f_iastore hZ dX5_step_307 (by first | rfl | exact hC.t1 | exact hC.t2 | exact hC.t3 | exact hC.t4 | exact hC.t5) (by first | rfl | exact hC.l1 | exact hC.l2 | exact hC.l3 | exact hC.l4 | exact hC.l5) (by first | omega | exact rg_of _) (by first | omega | exact rg_of _) (by first | omega | exact rg_of _) ?_
                      refine f_goto (tgt := 333) hZ dX5_step_308 rfl ?_
                      refine f_iload hZ dX5_step_333 rfl ?_
                      refine f_iconst hZ dX5_step_335 ?_
                      refine f_iadd hZ dX5_step_336 ?_
                      exact f_retI hZ hR dX5_step_337 rfl (by first | omega | exact rg_of _) (by first | (exfalso; omega) | exact stQ_same (stp_bin0 (by omega) (by omega)) | (refine stQ_up (t' := t - 1) ((stp_bin (by omega) (by omega)).trans ?_) (by omega); rw [bzo (by omega)]; first | rw [if_pos (by omega)] | rw [if_neg (by omega)]))
                · refine f_tswIn (tgt := 264) hZ (-5) dX5_step_113 h113 (by omega) (by omega) (by omega) rfl rfl ?_
                  refine f_aload_n hZ dX5_step_264 rfl ?_
                  refine gX5_28 hZ dX5_step_265 ?_
                  refine f_iload hZ dX5_step_268 rfl ?_
                  refine f_iload hZ dX5_step_270 rfl ?_
                  refine f_iload hZ dX5_step_272 rfl ?_
                  refine f_ine (tgt := 281) hZ dX5_step_274 rfl (by first | omega | exact rg_of _) (by first | omega | exact rg_of _) (fun h274 => ?_) (fun h274 => ?_)
                  · refine f_iconst hZ dX5_step_281 ?_
                    refine f_iastore hZ dX5_step_282 (by first | rfl | exact hC.t1 | exact hC.t2 | exact hC.t3 | exact hC.t4 | exact hC.t5) (by first | rfl | exact hC.l1 | exact hC.l2 | exact hC.l3 | exact hC.l4 | exact hC.l5) (by first | omega | exact rg_of _) (by first | omega | exact rg_of _) (by first | omega | exact rg_of _) ?_
                    refine f_goto (tgt := 333) hZ dX5_step_283 rfl ?_
                    refine f_iload hZ dX5_step_333 rfl ?_
                    refine f_iconst hZ dX5_step_335 ?_
                    refine f_iadd hZ dX5_step_336 ?_
                    exact f_retI hZ hR dX5_step_337 rfl (by first | omega | exact rg_of _) (by first | (exfalso; omega) | exact stQ_same (stp_bin0 (by omega) (by omega)) | (refine stQ_up (t' := t - 1) ((stp_bin (by omega) (by omega)).trans ?_) (by omega); rw [bzo (by omega)]; first | rw [if_pos (by omega)] | rw [if_neg (by omega)]))
                  · refine f_iconst hZ dX5_step_277 ?_
                    refine f_goto (tgt := 282) hZ dX5_step_278 rfl ?_
                    refine f_iastore hZ dX5_step_282 (by first | rfl | exact hC.t1 | exact hC.t2 | exact hC.t3 | exact hC.t4 | exact hC.t5) (by first | rfl | exact hC.l1 | exact hC.l2 | exact hC.l3 | exact hC.l4 | exact hC.l5) (by first | omega | exact rg_of _) (by first | omega | exact rg_of _) (by first | omega | exact rg_of _) ?_
                    refine f_goto (tgt := 333) hZ dX5_step_283 rfl ?_
                    refine f_iload hZ dX5_step_333 rfl ?_
                    refine f_iconst hZ dX5_step_335 ?_
                    refine f_iadd hZ dX5_step_336 ?_
                    exact f_retI hZ hR dX5_step_337 rfl (by first | omega | exact rg_of _) (by first | (exfalso; omega) | exact stQ_same (stp_bin0 (by omega) (by omega)) | (refine stQ_up (t' := t - 1) ((stp_bin (by omega) (by omega)).trans ?_) (by omega); rw [bzo (by omega)]; first | rw [if_pos (by omega)] | rw [if_neg (by omega)]))
                · refine f_tswIn (tgt := 242) hZ (-4) dX5_step_113 h113 (by omega) (by omega) (by omega) rfl rfl ?_
                  refine f_aload_n hZ dX5_step_242 rfl ?_
                  refine gX5_28 hZ dX5_step_243 ?_
                  refine f_iload hZ dX5_step_246 rfl ?_
                  refine f_iload hZ dX5_step_248 rfl ?_
                  refine f_iload hZ dX5_step_250 rfl ?_
                  refine f_ige (tgt := 259) hZ dX5_step_252 rfl (by first | omega | exact rg_of _) (by first | omega | exact rg_of _) (fun h252 => ?_) (fun h252 => ?_)
                  · refine f_iconst hZ dX5_step_259 ?_
                    refine f_iastore hZ dX5_step_260 (by first | rfl | exact hC.t1 | exact hC.t2 | exact hC.t3 | exact hC.t4 | exact hC.t5) (by first | rfl | exact hC.l1 | exact hC.l2 | exact hC.l3 | exact hC.l4 | exact hC.l5) (by first | omega | exact rg_of _) (by first | omega | exact rg_of _) (by first | omega | exact rg_of _) ?_
                    refine f_goto (tgt := 333) hZ dX5_step_261 rfl ?_
                    refine f_iload hZ dX5_step_333 rfl ?_
                    refine f_iconst hZ dX5_step_335 ?_
                    refine f_iadd hZ dX5_step_336 ?_
                    exact f_retI hZ hR dX5_step_337 rfl (by first | omega | exact rg_of _) (by first | (exfalso; omega) | exact stQ_same (stp_bin0 (by omega) (by omega)) | (refine stQ_up (t' := t - 1) ((stp_bin (by omega) (by omega)).trans ?_) (by omega); rw [bzo (by omega)]; first | rw [if_pos (by omega)] | rw [if_neg (by omega)]))
                  · refine f_iconst hZ dX5_step_255 ?_
                    refine f_goto (tgt := 260) hZ dX5_step_256 rfl ?_
                    refine f_iastore hZ dX5_step_260 (by first | rfl | exact hC.t1 | exact hC.t2 | exact hC.t3 | exact hC.t4 | exact hC.t5) (by first | rfl | exact hC.l1 | exact hC.l2 | exact hC.l3 | exact hC.l4 | exact hC.l5) (by first | omega | exact rg_of _) (by first | omega | exact rg_of _) (by first | omega | exact rg_of _) ?_
                    refine f_goto (tgt := 333) hZ dX5_step_261 rfl ?_
                    refine f_iload hZ dX5_step_333 rfl ?_
                    refine f_iconst hZ dX5_step_335 ?_
                    refine f_iadd hZ dX5_step_336 ?_
                    exact f_retI hZ hR dX5_step_337 rfl (by first | omega | exact rg_of _) (by first | (exfalso; omega) | exact stQ_same (stp_bin0 (by omega) (by omega)) | (refine stQ_up (t' := t - 1) ((stp_bin (by omega) (by omega)).trans ?_) (by omega); rw [bzo (by omega)]; first | rw [if_pos (by omega)] | rw [if_neg (by omega)]))
                · refine f_tswIn (tgt := 227) hZ (-3) dX5_step_113 h113 (by omega) (by omega) (by omega) rfl rfl ?_
                  refine f_aload_n hZ dX5_step_227 rfl ?_
                  refine gX5_28 hZ dX5_step_228 ?_
                  refine f_iload hZ dX5_step_231 rfl ?_
                  refine f_iload hZ dX5_step_233 rfl ?_
                  refine f_iload hZ dX5_step_235 rfl ?_
                  refine f_imul hZ dX5_step_237 ?_
                  refine f_wrap ?_
                  refine f_iastore hZ dX5_step_238 (by first | rfl | exact hC.t1 | exact hC.t2 | exact hC.t3 | exact hC.t4 | exact hC.t5) (by first | rfl | exact hC.l1 | exact hC.l2 | exact hC.l3 | exact hC.l4 | exact hC.l5) (by first | omega | exact rg_of _) (by first | omega | exact rg_of _) (by first | omega | exact rg_of _) ?_
                  refine f_goto (tgt := 333) hZ dX5_step_239 rfl ?_
                  refine f_iload hZ dX5_step_333 rfl ?_
                  refine f_iconst hZ dX5_step_335 ?_
                  refine f_iadd hZ dX5_step_336 ?_
                  exact f_retI hZ hR dX5_step_337 rfl (by first | omega | exact rg_of _) (by first | (exfalso; omega) | exact stQ_same (stp_bin0 (by omega) (by omega)) | (refine stQ_up (t' := t - 1) ((stp_bin (by omega) (by omega)).trans ?_) (by omega); rw [bzo (by omega)]; first | rw [if_pos (by omega)] | rw [if_neg (by omega)]))
                · refine f_tswIn (tgt := 212) hZ (-2) dX5_step_113 h113 (by omega) (by omega) (by omega) rfl rfl ?_
                  refine f_aload_n hZ dX5_step_212 rfl ?_
                  refine gX5_28 hZ dX5_step_213 ?_
                  refine f_iload hZ dX5_step_216 rfl ?_
                  refine f_iload hZ dX5_step_218 rfl ?_
                  refine f_iload hZ dX5_step_220 rfl ?_
                  refine f_isub hZ dX5_step_222 ?_
                  refine f_wrap ?_
                  refine f_iastore hZ dX5_step_223 (by first | rfl | exact hC.t1 | exact hC.t2 | exact hC.t3 | exact hC.t4 | exact hC.t5) (by first | rfl | exact hC.l1 | exact hC.l2 | exact hC.l3 | exact hC.l4 | exact hC.l5) (by first | omega | exact rg_of _) (by first | omega | exact rg_of _) (by first | omega | exact rg_of _) ?_
                  refine f_goto (tgt := 333) hZ dX5_step_224 rfl ?_
                  refine f_iload hZ dX5_step_333 rfl ?_
                  refine f_iconst hZ dX5_step_335 ?_
                  refine f_iadd hZ dX5_step_336 ?_
                  exact f_retI hZ hR dX5_step_337 rfl (by first | omega | exact rg_of _) (by first | (exfalso; omega) | exact stQ_same (stp_bin0 (by omega) (by omega)) | (refine stQ_up (t' := t - 1) ((stp_bin (by omega) (by omega)).trans ?_) (by omega); rw [bzo (by omega)]; first | rw [if_pos (by omega)] | rw [if_neg (by omega)]))
                · refine f_tswIn (tgt := 197) hZ (-1) dX5_step_113 h113 (by omega) (by omega) (by omega) rfl rfl ?_
                  refine f_aload_n hZ dX5_step_197 rfl ?_
                  refine gX5_28 hZ dX5_step_198 ?_
                  refine f_iload hZ dX5_step_201 rfl ?_
                  refine f_iload hZ dX5_step_203 rfl ?_
                  refine f_iload hZ dX5_step_205 rfl ?_
                  refine f_iadd hZ dX5_step_207 ?_
                  refine f_wrap ?_
                  refine f_iastore hZ dX5_step_208 (by first | rfl | exact hC.t1 | exact hC.t2 | exact hC.t3 | exact hC.t4 | exact hC.t5) (by first | rfl | exact hC.l1 | exact hC.l2 | exact hC.l3 | exact hC.l4 | exact hC.l5) (by first | omega | exact rg_of _) (by first | omega | exact rg_of _) (by first | omega | exact rg_of _) ?_
                  refine f_goto (tgt := 333) hZ dX5_step_209 rfl ?_
                  refine f_iload hZ dX5_step_333 rfl ?_
                  refine f_iconst hZ dX5_step_335 ?_
                  refine f_iadd hZ dX5_step_336 ?_
                  exact f_retI hZ hR dX5_step_337 rfl (by first | omega | exact rg_of _) (by first | (exfalso; omega) | exact stQ_same (stp_bin0 (by omega) (by omega)) | (refine stQ_up (t' := t - 1) ((stp_bin (by omega) (by omega)).trans ?_) (by omega); rw [bzo (by omega)]; first | rw [if_pos (by omega)] | rw [if_neg (by omega)]))
              · refine f_iload_n hZ dX5_step_91 rfl ?_
                exact f_retI hZ hR dX5_step_92 rfl (by first | omega | exact rg_of _) (by first | (exfalso; omega) | exact stQ_same (stp_bin0 (by omega) (by omega)) | (refine stQ_up (t' := t - 1) ((stp_bin (by omega) (by omega)).trans ?_) (by omega); rw [bzo (by omega)]; first | rw [if_pos (by omega)] | rw [if_neg (by omega)]))
            · exfalso; omega
          · refine f_iconst hZ dX5_step_65 ?_
            refine f_goto (tgt := 70) hZ dX5_step_66 rfl ?_
            refine f_istore_n (L' := [_, _, _, _, _, _, _]) hZ dX5_step_70 rfl rfl ?_
            refine f_iload_n hZ dX5_step_71 rfl ?_
            refine f_eq (tgt := 81) hZ dX5_step_72 rfl (by first | omega | exact rg_of _) (fun h72 => ?_) (fun h72 => ?_)
            · exfalso; omega
            · refine f_iload_n hZ dX5_step_75 rfl ?_
              refine f_iconst hZ dX5_step_76 ?_
              refine f_isub hZ dX5_step_77 ?_
              refine f_goto (tgt := 84) hZ dX5_step_78 rfl ?_
              refine f_istore (L' := [_, _, _, _, _, _, _]) hZ dX5_step_84 rfl rfl ?_
              refine f_iload hZ dX5_step_86 rfl ?_
              refine f_ge (tgt := 93) hZ dX5_step_88 rfl (by first | omega | exact rg_of _) (fun h88 => ?_) (fun h88 => ?_)
              · refine f_aload_n hZ dX5_step_93 rfl ?_
                refine gX5_28 hZ dX5_step_94 ?_
                refine f_iload hZ dX5_step_97 rfl ?_
                refine f_iaload hZ dX5_step_99 (by first | rfl | exact hC.t1 | exact hC.t2 | exact hC.t3 | exact hC.t4 | exact hC.t5) (by first | rfl | exact hC.l1 | exact hC.l2 | exact hC.l3 | exact hC.l4 | exact hC.l5) (by first | omega | exact rg_of _) (by first | omega | exact rg_of _) (fun r99 => ?_)
                refine f_istore (L' := [_, _, _, _, _, _, _]) hZ dX5_step_100 rfl rfl ?_
                refine f_aload_n hZ dX5_step_102 rfl ?_
                refine gX5_28 hZ dX5_step_103 ?_
                refine f_iload_n hZ dX5_step_106 rfl ?_
                refine f_iconst hZ dX5_step_107 ?_
                refine f_isub hZ dX5_step_108 ?_
                refine f_iaload hZ dX5_step_109 (by first | rfl | exact hC.t1 | exact hC.t2 | exact hC.t3 | exact hC.t4 | exact hC.t5) (by first | rfl | exact hC.l1 | exact hC.l2 | exact hC.l3 | exact hC.l4 | exact hC.l5) (by first | omega | exact rg_of _) (by first | omega | exact rg_of _) (fun r109 => ?_)
                refine f_istore (L' := [_, _, _, _, _, _, _]) hZ dX5_step_110 rfl rfl ?_
                refine f_iload_n hZ dX5_step_112 rfl ?_
                rcases (show (c < -9 ∨ -1 < c) ∨ c = -9 ∨ c = -8 ∨ c = -7 ∨ c = -6 ∨ c = -5 ∨ c = -4 ∨ c = -3 ∨ c = -2 ∨ c = -1 by omega) with h113 | h113 | h113 | h113 | h113 | h113 | h113 | h113 | h113 | h113
                · refine f_tswOut (tgt := 311) hZ dX5_step_113 (by first | omega | exact rg_of _) h113 rfl ?_
                  refine f_aload_n hZ dX5_step_311 rfl ?_
                  refine gX5_28 hZ dX5_step_312 ?_
                  refine f_iload hZ dX5_step_315 rfl ?_
                  refine f_iload hZ dX5_step_317 rfl ?_
                  refine f_ne (tgt := 327) hZ dX5_step_319 rfl (by first | omega | exact rg_of _) (fun h319 => ?_) (fun h319 => ?_)
                  · refine f_iconst hZ dX5_step_327 ?_
                    refine f_goto (tgt := 332) hZ dX5_step_328 rfl ?_
                    refine f_iastore hZ dX5_step_332 (by first | rfl | exact hC.t1 | exact hC.t2 | exact hC.t3 | exact hC.t4 | exact hC.t5) (by first | rfl | exact hC.l1 | exact hC.l2 | exact hC.l3 | exact hC.l4 | exact hC.l5) (by first | omega | exact rg_of _) (by first | omega | exact rg_of _) (by first | omega | exact rg_of _) ?_
                    refine f_iload hZ dX5_step_333 rfl ?_
                    refine f_iconst hZ dX5_step_335 ?_
                    refine f_iadd hZ dX5_step_336 ?_
                    exact f_retI hZ hR dX5_step_337 rfl (by first | omega | exact rg_of _) (by first | (exfalso; omega) | exact stQ_same (stp_bin0 (by omega) (by omega)) | (refine stQ_up (t' := t - 1) ((stp_bin (by omega) (by omega)).trans ?_) (by omega); rw [bzo (by omega)]; first | rw [if_pos (by omega)] | rw [if_neg (by omega)]))
                  · refine f_iload hZ dX5_step_322 rfl ?_
                    refine f_eq (tgt := 331) hZ dX5_step_324 rfl (by first | omega | exact rg_of _) (fun h324 => ?_) (fun h324 => ?_)
                    · refine f_iconst hZ dX5_step_331 ?_
                      refine f_iastore hZ dX5_step_332 (by first | rfl | exact hC.t1 | exact hC.t2 | exact hC.t3 | exact hC.t4 | exact hC.t5) (by first | rfl | exact hC.l1 | exact hC.l2 | exact hC.l3 | exact hC.l4 | exact hC.l5) (by first | omega | exact rg_of _) (by first | omega | exact rg_of _) (by first | omega | exact rg_of _) ?_
                      refine f_iload hZ dX5_step_333 rfl ?_
                      refine f_iconst hZ dX5_step_335 ?_
                      refine f_iadd hZ dX5_step_336 ?_
                      exact f_retI hZ hR dX5_step_337 rfl (by first | omega | exact rg_of _) (by first | (exfalso; omega) | exact stQ_same (stp_bin0 (by omega) (by omega)) | (refine stQ_up (t' := t - 1) ((stp_bin (by omega) (by omega)).trans ?_) (by omega); rw [bzo (by omega)]; first | rw [if_pos (by omega)] | rw [if_neg (by omega)]))
                    · refine f_iconst hZ dX5_step_327 ?_
                      refine f_goto (tgt := 332) hZ dX5_step_328 rfl ?_
                      refine f_iastore hZ dX5_step_332 (by first | rfl | exact hC.t1 | exact hC.t2 | exact hC.t3 | exact hC.t4 | exact hC.t5) (by first | rfl | exact hC.l1 | exact hC.l2 | exact hC.l3 | exact hC.l4 | exact hC.l5) (by first | omega | exact rg_of _) (by first | omega | exact rg_of _) (by first | omega | exact rg_of _) ?_
                      refine f_iload hZ dX5_step_333 rfl ?_
                      refine f_iconst hZ dX5_step_335 ?_
                      refine f_iadd hZ dX5_step_336 ?_
                      exact f_retI hZ hR dX5_step_337 rfl (by first | omega | exact rg_of _) (by first | (exfalso; omega) | exact stQ_same (stp_bin0 (by omega) (by omega)) | (refine stQ_up (t' := t - 1) ((stp_bin (by omega) (by omega)).trans ?_) (by omega); rw [bzo (by omega)]; first | rw [if_pos (by omega)] | rw [if_neg (by omega)]))
                · refine f_tswIn (tgt := 184) hZ (-9) dX5_step_113 h113 (by omega) (by omega) (by omega) rfl rfl ?_
                  refine f_aload_n hZ dX5_step_184 rfl ?_
                  refine gX5_28 hZ dX5_step_185 ?_
                  refine f_iload hZ dX5_step_188 rfl ?_
                  refine f_iload hZ dX5_step_190 rfl ?_
                  refine f_ineg hZ dX5_step_192 ?_
                  refine f_wrap ?_
                  refine f_iastore hZ dX5_step_193 (by first | rfl | exact hC.t1 | exact hC.t2 | exact hC.t3 | exact hC.t4 | exact hC.t5) (by first | rfl | exact hC.l1 | exact hC.l2 | exact hC.l3 | exact hC.l4 | exact hC.l5) (by first | omega | exact rg_of _) (by first | omega | exact rg_of _) (by first | omega | exact rg_of _) ?_
                  refine f_goto (tgt := 333) hZ dX5_step_194 rfl ?_
                  refine f_iload hZ dX5_step_333 rfl ?_
                  refine f_iconst hZ dX5_step_335 ?_
                  refine f_iadd hZ dX5_step_336 ?_
                  exact f_retI hZ hR dX5_step_337 rfl (by first | omega | exact rg_of _) (by first | (exfalso; omega) | exact stQ_same (stp_bin0 (by omega) (by omega)) | (refine stQ_up (t' := t - 1) ((stp_bin (by omega) (by omega)).trans ?_) (by omega); rw [bzo (by omega)]; first | rw [if_pos (by omega)] | rw [if_neg (by omega)]))
                · refine f_tswIn (tgt := 164) hZ (-8) dX5_step_113 h113 (by omega) (by omega) (by omega) rfl rfl ?_
                  refine f_aload_n hZ dX5_step_164 rfl ?_
                  refine gX5_28 hZ dX5_step_165 ?_
                  refine f_iload hZ dX5_step_168 rfl ?_
                  refine f_iload hZ dX5_step_170 rfl ?_
                  refine f_ne (tgt := 179) hZ dX5_step_172 rfl (by first | omega | exact rg_of _) (fun h172 => ?_) (fun h172 => ?_)
                  · refine f_iconst hZ dX5_step_179 ?_
                    refine f_iastore hZ dX5_step_180 (by first | rfl | exact hC.t1 | exact hC.t2 | exact hC.t3 | exact hC.t4 | exact hC.t5) (by first | rfl | exact hC.l1 | exact hC.l2 | exact hC.l3 | exact hC.l4 | exact hC.l5) (by first | omega | exact rg_of _) (by first | omega | exact rg_of _) (by first | omega | exact rg_of _) ?_
                    refine f_goto (tgt := 333) hZ dX5_step_181 rfl ?_
                    refine f_iload hZ dX5_step_333 rfl ?_
                    refine f_iconst hZ dX5_step_335 ?_
                    refine f_iadd hZ dX5_step_336 ?_
                    exact f_retI hZ hR dX5_step_337 rfl (by first | omega | exact rg_of _) (by first | (exfalso; omega) | exact stQ_same (stp_bin0 (by omega) (by omega)) | (refine stQ_up (t' := t - 1) ((stp_bin (by omega) (by omega)).trans ?_) (by omega); rw [bzo (by omega)]; first | rw [if_pos (by omega)] | rw [if_neg (by omega)]))
                  · refine f_iconst hZ dX5_step_175 ?_
                    refine f_goto (tgt := 180) hZ dX5_step_176 rfl ?_
                    refine f_iastore hZ dX5_step_180 (by first | rfl | exact hC.t1 | exact hC.t2 | exact hC.t3 | exact hC.t4 | exact hC.t5) (by first | rfl | exact hC.l1 | exact hC.l2 | exact hC.l3 | exact hC.l4 | exact hC.l5) (by first | omega | exact rg_of _) (by first | omega | exact rg_of _) (by first | omega | exact rg_of _) ?_
                    refine f_goto (tgt := 333) hZ dX5_step_181 rfl ?_
                    refine f_iload hZ dX5_step_333 rfl ?_
                    refine f_iconst hZ dX5_step_335 ?_
                    refine f_iadd hZ dX5_step_336 ?_
                    exact f_retI hZ hR dX5_step_337 rfl (by first | omega | exact rg_of _) (by first | (exfalso; omega) | exact stQ_same (stp_bin0 (by omega) (by omega)) | (refine stQ_up (t' := t - 1) ((stp_bin (by omega) (by omega)).trans ?_) (by omega); rw [bzo (by omega)]; first | rw [if_pos (by omega)] | rw [if_neg (by omega)]))
                · refine f_tswIn (tgt := 311) hZ (-7) dX5_step_113 h113 (by omega) (by omega) (by omega) rfl rfl ?_
                  refine f_aload_n hZ dX5_step_311 rfl ?_
                  refine gX5_28 hZ dX5_step_312 ?_
                  refine f_iload hZ dX5_step_315 rfl ?_
                  refine f_iload hZ dX5_step_317 rfl ?_
                  refine f_ne (tgt := 327) hZ dX5_step_319 rfl (by first | omega | exact rg_of _) (fun h319 => ?_) (fun h319 => ?_)
                  · refine f_iconst hZ dX5_step_327 ?_
                    refine f_goto (tgt := 332) hZ dX5_step_328 rfl ?_
                    refine f_iastore hZ dX5_step_332 (by first | rfl | exact hC.t1 | exact hC.t2 | exact hC.t3 | exact hC.t4 | exact hC.t5) (by first | rfl | exact hC.l1 | exact hC.l2 | exact hC.l3 | exact hC.l4 | exact hC.l5) (by first | omega | exact rg_of _) (by first | omega | exact rg_of _) (by first | omega | exact rg_of _) ?_
                    refine f_iload hZ dX5_step_333 rfl ?_
                    refine f_iconst hZ dX5_step_335 ?_
                    refine f_iadd hZ dX5_step_336 ?_
                    exact f_retI hZ hR dX5_step_337 rfl (by first | omega | exact rg_of _) (by first | (exfalso; omega) | exact stQ_same (stp_bin0 (by omega) (by omega)) | (refine stQ_up (t' := t - 1) ((stp_bin (by omega) (by omega)).trans ?_) (by omega); rw [bzo (by omega)]; first | rw [if_pos (by omega)] | rw [if_neg (by omega)]))
                  · refine f_iload hZ dX5_step_322 rfl ?_
                    refine f_eq (tgt := 331) hZ dX5_step_324 rfl (by first | omega | exact rg_of _) (fun h324 => ?_) (fun h324 => ?_)
                    · refine f_iconst hZ dX5_step_331 ?_
                      refine f_iastore hZ dX5_step_332 (by first | rfl | exact hC.t1 | exact hC.t2 | exact hC.t3 | exact hC.t4 | exact hC.t5) (by first | rfl | exact hC.l1 | exact hC.l2 | exact hC.l3 | exact hC.l4 | exact hC.l5) (by first | omega | exact rg_of _) (by first | omega | exact rg_of _) (by first | omega | exact rg_of _) ?_
                      refine f_iload hZ dX5_step_333 rfl ?_
                      refine f_iconst hZ dX5_step_335 ?_
                      refine f_iadd hZ dX5_step_336 ?_
                      exact f_retI hZ hR dX5_step_337 rfl (by first | omega | exact rg_of _) (by first | (exfalso; omega) | exact stQ_same (stp_bin0 (by omega) (by omega)) | (refine stQ_up (t' := t - 1) ((stp_bin (by omega) (by omega)).trans ?_) (by omega); rw [bzo (by omega)]; first | rw [if_pos (by omega)] | rw [if_neg (by omega)]))
                    · refine f_iconst hZ dX5_step_327 ?_
                      refine f_goto (tgt := 332) hZ dX5_step_328 rfl ?_
                      refine f_iastore hZ dX5_step_332 (by first | rfl | exact hC.t1 | exact hC.t2 | exact hC.t3 | exact hC.t4 | exact hC.t5) (by first | rfl | exact hC.l1 | exact hC.l2 | exact hC.l3 | exact hC.l4 | exact hC.l5) (by first | omega | exact rg_of _) (by first | omega | exact rg_of _) (by first | omega | exact rg_of _) ?_
                      refine f_iload hZ dX5_step_333 rfl ?_
                      refine f_iconst hZ dX5_step_335 ?_
                      refine f_iadd hZ dX5_step_336 ?_
                      exact f_retI hZ hR dX5_step_337 rfl (by first | omega | exact rg_of _) (by first | (exfalso; omega) | exact stQ_same (stp_bin0 (by omega) (by omega)) | (refine stQ_up (t' := t - 1) ((stp_bin (by omega) (by omega)).trans ?_) (by omega); rw [bzo (by omega)]; first | rw [if_pos (by omega)] | rw [if_neg (by omega)]))
                · refine f_tswIn (tgt := 286) hZ (-6) dX5_step_113 h113 (by omega) (by omega) (by omega) rfl rfl ?_
                  refine f_aload_n hZ dX5_step_286 rfl ?_
                  refine gX5_28 hZ dX5_step_287 ?_
                  refine f_iload hZ dX5_step_290 rfl ?_
                  refine f_iload hZ dX5_step_292 rfl ?_
                  refine f_eq (tgt := 306) hZ dX5_step_294 rfl (by first | omega | exact rg_of _) (fun h294 => ?_) (fun h294 => ?_)
                  · refine f_iconst hZ dX5_step_306 ?_
                    refine f_iastore hZ dX5_step_307 (by first | rfl | exact hC.t1 | exact hC.t2 | exact hC.t3 | exact hC.t4 | exact hC.t5) (by first | rfl | exact hC.l1 | exact hC.l2 | exact hC.l3 | exact hC.l4 | exact hC.l5) (by first | omega | exact rg_of _) (by first | omega | exact rg_of _) (by first | omega | exact rg_of _) ?_
                    refine f_goto (tgt := 333) hZ dX5_step_308 rfl ?_
                    refine f_iload hZ dX5_step_333 rfl ?_
                    refine f_iconst hZ dX5_step_335 ?_
                    refine f_iadd hZ dX5_step_336 ?_
                    exact f_retI hZ hR dX5_step_337 rfl (by first | omega | exact rg_of _) (by first | (exfalso; omega) | exact stQ_same (stp_bin0 (by omega) (by omega)) | (refine stQ_up (t' := t - 1) ((stp_bin (by omega) (by omega)).trans ?_) (by omega); rw [bzo (by omega)]; first | rw [if_pos (by omega)] | rw [if_neg (by omega)]))
                  · refine f_iload hZ dX5_step_297 rfl ?_
                    refine f_eq (tgt := 306) hZ dX5_step_299 rfl (by first | omega | exact rg_of _) (fun h299 => ?_) (fun h299 => ?_)
                    · refine f_iconst hZ dX5_step_306 ?_
                      refine f_iastore hZ dX5_step_307 (by first | rfl | exact hC.t1 | exact hC.t2 | exact hC.t3 | exact hC.t4 | exact hC.t5) (by first | rfl | exact hC.l1 | exact hC.l2 | exact hC.l3 | exact hC.l4 | exact hC.l5) (by first | omega | exact rg_of _) (by first | omega | exact rg_of _) (by first | omega | exact rg_of _) ?_
                      refine f_goto (tgt := 333) hZ dX5_step_308 rfl ?_
                      refine f_iload hZ dX5_step_333 rfl ?_
                      refine f_iconst hZ dX5_step_335 ?_
                      refine f_iadd hZ dX5_step_336 ?_
                      exact f_retI hZ hR dX5_step_337 rfl (by first | omega | exact rg_of _) (by first | (exfalso; omega) | exact stQ_same (stp_bin0 (by omega) (by omega)) | (refine stQ_up (t' := t - 1) ((stp_bin (by omega) (by omega)).trans ?_) (by omega); rw [bzo (by omega)]; first | rw [if_pos (by omega)] | rw [if_neg (by omega)]))
                    · refine f_iconst hZ dX5_step_302 ?_
                      refine f_goto (tgt := 307) hZ dX5_step_303 rfl ?_
                      refine f_iastore hZ dX5_step_307 (by first | rfl | exact hC.t1 | exact hC.t2 | exact hC.t3 | exact hC.t4 | exact hC.t5) (by first | rfl | exact hC.l1 | exact hC.l2 | exact hC.l3 | exact hC.l4 | exact hC.l5) (by first | omega | exact rg_of _) (by first | omega | exact rg_of _) (by first | omega | exact rg_of _) ?_
                      refine f_goto (tgt := 333) hZ dX5_step_308 rfl ?_
                      refine f_iload hZ dX5_step_333 rfl ?_
                      refine f_iconst hZ dX5_step_335 ?_
                      refine f_iadd hZ dX5_step_336 ?_
                      exact f_retI hZ hR dX5_step_337 rfl (by first | omega | exact rg_of _) (by first | (exfalso; omega) | exact stQ_same (stp_bin0 (by omega) (by omega)) | (refine stQ_up (t' := t - 1) ((stp_bin (by omega) (by omega)).trans ?_) (by omega); rw [bzo (by omega)]; first | rw [if_pos (by omega)] | rw [if_neg (by omega)]))
                · refine f_tswIn (tgt := 264) hZ (-5) dX5_step_113 h113 (by omega) (by omega) (by omega) rfl rfl ?_
                  refine f_aload_n hZ dX5_step_264 rfl ?_
                  refine gX5_28 hZ dX5_step_265 ?_
                  refine f_iload hZ dX5_step_268 rfl ?_
                  refine f_iload hZ dX5_step_270 rfl ?_
                  refine f_iload hZ dX5_step_272 rfl ?_
                  refine f_ine (tgt := 281) hZ dX5_step_274 rfl (by first | omega | exact rg_of _) (by first | omega | exact rg_of _) (fun h274 => ?_) (fun h274 => ?_)
                  · refine f_iconst hZ dX5_step_281 ?_
                    refine f_iastore hZ dX5_step_282 (by first | rfl | exact hC.t1 | exact hC.t2 | exact hC.t3 | exact hC.t4 | exact hC.t5) (by first | rfl | exact hC.l1 | exact hC.l2 | exact hC.l3 | exact hC.l4 | exact hC.l5) (by first | omega | exact rg_of _) (by first | omega | exact rg_of _) (by first | omega | exact rg_of _) ?_
                    refine f_goto (tgt := 333) hZ dX5_step_283 rfl ?_
                    refine f_iload hZ dX5_step_333 rfl ?_
                    refine f_iconst hZ dX5_step_335 ?_
                    refine f_iadd hZ dX5_step_336 ?_
                    exact f_retI hZ hR dX5_step_337 rfl (by first | omega | exact rg_of _) (by first | (exfalso; omega) | exact stQ_same (stp_bin0 (by omega) (by omega)) | (refine stQ_up (t' := t - 1) ((stp_bin (by omega) (by omega)).trans ?_) (by omega); rw [bzo (by omega)]; first | rw [if_pos (by omega)] | rw [if_neg (by omega)]))
                  · refine f_iconst hZ dX5_step_277 ?_
                    refine f_goto (tgt := 282) hZ dX5_step_278 rfl ?_
                    refine f_iastore hZ dX5_step_282 (by first | rfl | exact hC.t1 | exact hC.t2 | exact hC.t3 | exact hC.t4 | exact hC.t5) (by first | rfl | exact hC.l1 | exact hC.l2 | exact hC.l3 | exact hC.l4 | exact hC.l5) (by first | omega | exact rg_of _) (by first | omega | exact rg_of _) (by first | omega | exact rg_of _) ?_
                    refine f_goto (tgt := 333) hZ dX5_step_283 rfl ?_
                    refine f_iload hZ dX5_step_333 rfl ?_
                    refine f_iconst hZ dX5_step_335 ?_
                    refine f_iadd hZ dX5_step_336 ?_
                    exact f_retI hZ hR dX5_step_337 rfl (by first | omega | exact rg_of _) (by first | (exfalso; omega) | exact stQ_same (stp_bin0 (by omega) (by omega)) | (refine stQ_up (t' := t - 1) ((stp_bin (by omega) (by omega)).trans ?_) (by omega); rw [bzo (by omega)]; first | rw [if_pos (by omega)] | rw [if_neg (by omega)]))
                · refine f_tswIn (tgt := 242) hZ (-4) dX5_step_113 h113 (by omega) (by omega) (by omega) rfl rfl ?_
                  refine f_aload_n hZ dX5_step_242 rfl ?_
                  refine gX5_28 hZ dX5_step_243 ?_
                  refine f_iload hZ dX5_step_246 rfl ?_
                  refine f_iload hZ dX5_step_248 rfl ?_
                  refine f_iload hZ dX5_step_250 rfl ?_
                  refine f_ige (tgt := 259) hZ dX5_step_252 rfl (by first | omega | exact rg_of _) (by first | omega | exact rg_of _) (fun h252 => ?_) (fun h252 => ?_)
                  · refine f_iconst hZ dX5_step_259 ?_
                    refine f_iastore hZ dX5_step_260 (by first | rfl | exact hC.t1 | exact hC.t2 | exact hC.t3 | exact hC.t4 | exact hC.t5) (by first | rfl | exact hC.l1 | exact hC.l2 | exact hC.l3 | exact hC.l4 | exact hC.l5) (by first | omega | exact rg_of _) (by first | omega | exact rg_of _) (by first | omega | exact rg_of _) ?_
                    refine f_goto (tgt := 333) hZ dX5_step_261 rfl ?_
                    refine f_iload hZ dX5_step_333 rfl ?_
                    refine f_iconst hZ dX5_step_335 ?_
                    refine f_iadd hZ dX5_step_336 ?_
                    exact f_retI hZ hR dX5_step_337 rfl (by first | omega | exact rg_of _) (by first | (exfalso; omega) | exact stQ_same (stp_bin0 (by omega) (by omega)) | (refine stQ_up (t' := t - 1) ((stp_bin (by omega) (by omega)).trans ?_) (by omega); rw [bzo (by omega)]; first | rw [if_pos (by omega)] | rw [if_neg (by omega)]))
                  · refine f_iconst hZ dX5_step_255 ?_
                    refine f_goto (tgt := 260) hZ dX5_step_256 rfl ?_
                    refine f_iastore hZ dX5_step_260 (by first | rfl | exact hC.t1 | exact hC.t2 | exact hC.t3 | exact hC.t4 | exact hC.t5) (by first | rfl | exact hC.l1 | exact hC.l2 | exact hC.l3 | exact hC.l4 | exact hC.l5) (by first | omega | exact rg_of _) (by first | omega | exact rg_of _) (by first | omega | exact rg_of _) ?_
                    refine f_goto (tgt := 333) hZ dX5_step_261 rfl ?_
                    refine f_iload hZ dX5_step_333 rfl ?_
                    refine f_iconst hZ dX5_step_335 ?_
                    refine f_iadd hZ dX5_step_336 ?_
                    exact f_retI hZ hR dX5_step_337 rfl (by first | omega | exact rg_of _) (by first | (exfalso; omega) | exact stQ_same (stp_bin0 (by omega) (by omega)) | (refine stQ_up (t' := t - 1) ((stp_bin (by omega) (by omega)).trans ?_) (by omega); rw [bzo (by omega)]; first | rw [if_pos (by omega)] | rw [if_neg (by omega)]))
                · refine f_tswIn (tgt := 227) hZ (-3) dX5_step_113 h113 (by omega) (by omega) (by omega) rfl rfl ?_
                  refine f_aload_n hZ dX5_step_227 rfl ?_
                  refine gX5_28 hZ dX5_step_228 ?_
                  refine f_iload hZ dX5_step_231 rfl ?_
                  refine f_iload hZ dX5_step_233 rfl ?_
                  refine f_iload hZ dX5_step_235 rfl ?_
                  refine f_imul hZ dX5_step_237 ?_
                  refine f_wrap ?_
                  refine f_iastore hZ dX5_step_238 (by first | rfl | exact hC.t1 | exact hC.t2 | exact hC.t3 | exact hC.t4 | exact hC.t5) (by first | rfl | exact hC.l1 | exact hC.l2 | exact hC.l3 | exact hC.l4 | exact hC.l5) (by first | omega | exact rg_of _) (by first | omega | exact rg_of _) (by first | omega | exact rg_of _) ?_
                  refine f_goto (tgt := 333) hZ dX5_step_239 rfl ?_
                  refine f_iload hZ dX5_step_333 rfl ?_
                  refine f_iconst hZ dX5_step_335 ?_
                  refine f_iadd hZ dX5_step_336 ?_
                  exact f_retI hZ hR dX5_step_337 rfl (by first | omega | exact rg_of _) (by first | (exfalso; omega) | exact stQ_same (stp_bin0 (by omega) (by omega)) | (refine stQ_up (t' := t - 1) ((stp_bin (by omega) (by omega)).trans ?_) (by omega); rw [bzo (by omega)]; first | rw [if_pos (by omega)] | rw [if_neg (by omega)]))
                · refine f_tswIn (tgt := 212) hZ (-2) dX5_step_113 h113 (by omega) (by omega) (by omega) rfl rfl ?_
                  refine f_aload_n hZ dX5_step_212 rfl ?_
                  refine gX5_28 hZ dX5_step_213 ?_
                  refine f_iload hZ dX5_step_216 rfl ?_
                  refine f_iload hZ dX5_step_218 rfl ?_
                  refine f_iload hZ dX5_step_220 rfl ?_
                  refine f_isub hZ dX5_step_222 ?_
                  refine f_wrap ?_
                  refine f_iastore hZ dX5_step_223 (by first | rfl | exact hC.t1 | exact hC.t2 | exact hC.t3 | exact hC.t4 | exact hC.t5) (by first | rfl | exact hC.l1 | exact hC.l2 | exact hC.l3 | exact hC.l4 | exact hC.l5) (by first | omega | exact rg_of _) (by first | omega | exact rg_of _) (by first | omega | exact rg_of _) ?_
                  refine f_goto (tgt := 333) hZ dX5_step_224 rfl ?_
                  refine f_iload hZ dX5_step_333 rfl ?_
                  refine f_iconst hZ dX5_step_335 ?_
                  refine f_iadd hZ dX5_step_336 ?_
                  exact f_retI hZ hR dX5_step_337 rfl (by first | omega | exact rg_of _) (by first | (exfalso; omega) | exact stQ_same (stp_bin0 (by omega) (by omega)) | (refine stQ_up (t' := t - 1) ((stp_bin (by omega) (by omega)).trans ?_) (by omega); rw [bzo (by omega)]; first | rw [if_pos (by omega)] | rw [if_neg (by omega)]))
                · refine f_tswIn (tgt := 197) hZ (-1) dX5_step_113 h113 (by omega) (by omega) (by omega) rfl rfl ?_
                  refine f_aload_n hZ dX5_step_197 rfl ?_
                  refine gX5_28 hZ dX5_step_198 ?_
                  refine f_iload hZ dX5_step_201 rfl ?_
                  refine f_iload hZ dX5_step_203 rfl ?_
                  refine f_iload hZ dX5_step_205 rfl ?_
                  refine f_iadd hZ dX5_step_207 ?_
                  refine f_wrap ?_
                  refine f_iastore hZ dX5_step_208 (by first | rfl | exact hC.t1 | exact hC.t2 | exact hC.t3 | exact hC.t4 | exact hC.t5) (by first | rfl | exact hC.l1 | exact hC.l2 | exact hC.l3 | exact hC.l4 | exact hC.l5) (by first | omega | exact rg_of _) (by first | omega | exact rg_of _) (by first | omega | exact rg_of _) ?_
                  refine f_goto (tgt := 333) hZ dX5_step_209 rfl ?_
                  refine f_iload hZ dX5_step_333 rfl ?_
                  refine f_iconst hZ dX5_step_335 ?_
                  refine f_iadd hZ dX5_step_336 ?_
                  exact f_retI hZ hR dX5_step_337 rfl (by first | omega | exact rg_of _) (by first | (exfalso; omega) | exact stQ_same (stp_bin0 (by omega) (by omega)) | (refine stQ_up (t' := t - 1) ((stp_bin (by omega) (by omega)).trans ?_) (by omega); rw [bzo (by omega)]; first | rw [if_pos (by omega)] | rw [if_neg (by omega)]))
              · refine f_iload_n hZ dX5_step_91 rfl ?_
                exact f_retI hZ hR dX5_step_92 rfl (by first | omega | exact rg_of _) (by first | (exfalso; omega) | exact stQ_same (stp_bin0 (by omega) (by omega)) | (refine stQ_up (t' := t - 1) ((stp_bin (by omega) (by omega)).trans ?_) (by omega); rw [bzo (by omega)]; first | rw [if_pos (by omega)] | rw [if_neg (by omega)]))
      · exfalso; omega
    · exfalso; omega
  · refine f_iload_n hZ dX5_step_0 rfl ?_
    refine f_lt (tgt := 13) hZ dX5_step_1 rfl (by first | omega | exact rg_of _) (fun h1 => ?_) (fun h1 => ?_)
    · refine f_iload_n hZ dX5_step_13 rfl ?_
      refine f_lt (tgt := 53) hZ dX5_step_14 rfl (by first | omega | exact rg_of _) (fun h14 => ?_) (fun h14 => ?_)
      · refine f_iload_n hZ dX5_step_53 rfl ?_
        refine f_bipush hZ dX5_step_54 ?_
        refine f_ieq (tgt := 65) hZ dX5_step_56 rfl (by first | omega | exact rg_of _) (by first | omega | exact rg_of _) (fun h56 => ?_) (fun h56 => ?_)
        · exfalso; omega
        · refine f_iload_n hZ dX5_step_59 rfl ?_
          refine f_bipush hZ dX5_step_60 ?_
          refine f_ine (tgt := 69) hZ dX5_step_62 rfl (by first | omega | exact rg_of _) (by first | omega | exact rg_of _) (fun h62 => ?_) (fun h62 => ?_)
          · exfalso; omega
          · refine f_iconst hZ dX5_step_65 ?_
            refine f_goto (tgt := 70) hZ dX5_step_66 rfl ?_
            refine f_istore_n (L' := [_, _, _, _, _, _, _]) hZ dX5_step_70 rfl rfl ?_
            refine f_iload_n hZ dX5_step_71 rfl ?_
            refine f_eq (tgt := 81) hZ dX5_step_72 rfl (by first | omega | exact rg_of _) (fun h72 => ?_) (fun h72 => ?_)
            · exfalso; omega
            · refine f_iload_n hZ dX5_step_75 rfl ?_
              refine f_iconst hZ dX5_step_76 ?_
              refine f_isub hZ dX5_step_77 ?_
              refine f_goto (tgt := 84) hZ dX5_step_78 rfl ?_
              refine f_istore (L' := [_, _, _, _, _, _, _]) hZ dX5_step_84 rfl rfl ?_
              refine f_iload hZ dX5_step_86 rfl ?_
              refine f_ge (tgt := 93) hZ dX5_step_88 rfl (by first | omega | exact rg_of _) (fun h88 => ?_) (fun h88 => ?_)
              · refine f_aload_n hZ dX5_step_93 rfl ?_
                refine gX5_28 hZ dX5_step_94 ?_
                refine f_iload hZ dX5_step_97 rfl ?_
                refine f_iaload hZ dX5_step_99 (by first | rfl | exact hC.t1 | exact hC.t2 | exact hC.t3 | exact hC.t4 | exact hC.t5) (by first | rfl | exact hC.l1 | exact hC.l2 | exact hC.l3 | exact hC.l4 | exact hC.l5) (by first | omega | exact rg_of _) (by first | omega | exact rg_of _) (fun r99 => ?_)
                refine f_istore (L' := [_, _, _, _, _, _, _]) hZ dX5_step_100 rfl rfl ?_
                refine f_aload_n hZ dX5_step_102 rfl ?_
                refine gX5_28 hZ dX5_step_103 ?_
                refine f_iload_n hZ dX5_step_106 rfl ?_
                refine f_iconst hZ dX5_step_107 ?_
                refine f_isub hZ dX5_step_108 ?_
                refine f_iaload hZ dX5_step_109 (by first | rfl | exact hC.t1 | exact hC.t2 | exact hC.t3 | exact hC.t4 | exact hC.t5) (by first | rfl | exact hC.l1 | exact hC.l2 | exact hC.l3 | exact hC.l4 | exact hC.l5) (by first | omega | exact rg_of _) (by first | omega | exact rg_of _) (fun r109 => ?_)
                refine f_istore (L' := [_, _, _, _, _, _, _]) hZ dX5_step_110 rfl rfl ?_
                refine f_iload_n hZ dX5_step_112 rfl ?_
                refine f_tswIn (tgt := 184) hZ (-9) dX5_step_113 (by first | rfl | omega) (by omega) (by omega) (by omega) rfl rfl ?_
                refine f_aload_n hZ dX5_step_184 rfl ?_
                refine gX5_28 hZ dX5_step_185 ?_
                refine f_iload hZ dX5_step_188 rfl ?_
                refine f_iload hZ dX5_step_190 rfl ?_
                refine f_ineg hZ dX5_step_192 ?_
                refine f_wrap ?_
                refine f_iastore hZ dX5_step_193 (by first | rfl | exact hC.t1 | exact hC.t2 | exact hC.t3 | exact hC.t4 | exact hC.t5) (by first | rfl | exact hC.l1 | exact hC.l2 | exact hC.l3 | exact hC.l4 | exact hC.l5) (by first | omega | exact rg_of _) (by first | omega | exact rg_of _) (by first | omega | exact rg_of _) ?_
                refine f_goto (tgt := 333) hZ dX5_step_194 rfl ?_
                refine f_iload hZ dX5_step_333 rfl ?_
                refine f_iconst hZ dX5_step_335 ?_
                refine f_iadd hZ dX5_step_336 ?_
                exact f_retI hZ hR dX5_step_337 rfl (by first | omega | exact rg_of _) (by first | exact stQ_same (stp_neg0 (by omega)) | exact stQ_up (t' := t) (stp_neg (by omega)) (by omega))
              · refine f_iload_n hZ dX5_step_91 rfl ?_
                exact f_retI hZ hR dX5_step_92 rfl (by first | omega | exact rg_of _) (by first | exact stQ_same (stp_neg0 (by omega)) | exact stQ_up (t' := t) (stp_neg (by omega)) (by omega))
      · exfalso; omega
    · exfalso; omega
  · refine f_iload_n hZ dX5_step_0 rfl ?_
    refine f_lt (tgt := 13) hZ dX5_step_1 rfl (by first | omega | exact rg_of _) (fun h1 => ?_) (fun h1 => ?_)
    · refine f_iload_n hZ dX5_step_13 rfl ?_
      refine f_lt (tgt := 53) hZ dX5_step_14 rfl (by first | omega | exact rg_of _) (fun h14 => ?_) (fun h14 => ?_)
      · refine f_iload_n hZ dX5_step_53 rfl ?_
        refine f_bipush hZ dX5_step_54 ?_
        refine f_ieq (tgt := 65) hZ dX5_step_56 rfl (by first | omega | exact rg_of _) (by first | omega | exact rg_of _) (fun h56 => ?_) (fun h56 => ?_)
        · refine f_iconst hZ dX5_step_65 ?_
          refine f_goto (tgt := 70) hZ dX5_step_66 rfl ?_
          refine f_istore_n (L' := [_, _, _, _, _, _, _]) hZ dX5_step_70 rfl rfl ?_
          refine f_iload_n hZ dX5_step_71 rfl ?_
          refine f_eq (tgt := 81) hZ dX5_step_72 rfl (by first | omega | exact rg_of _) (fun h72 => ?_) (fun h72 => ?_)
          · exfalso; omega
          · refine f_iload_n hZ dX5_step_75 rfl ?_
            refine f_iconst hZ dX5_step_76 ?_
            refine f_isub hZ dX5_step_77 ?_
            refine f_goto (tgt := 84) hZ dX5_step_78 rfl ?_
            refine f_istore (L' := [_, _, _, _, _, _, _]) hZ dX5_step_84 rfl rfl ?_
            refine f_iload hZ dX5_step_86 rfl ?_
            refine f_ge (tgt := 93) hZ dX5_step_88 rfl (by first | omega | exact rg_of _) (fun h88 => ?_) (fun h88 => ?_)
            · refine f_aload_n hZ dX5_step_93 rfl ?_
              refine gX5_28 hZ dX5_step_94 ?_
              refine f_iload hZ dX5_step_97 rfl ?_
              refine f_iaload hZ dX5_step_99 (by first | rfl | exact hC.t1 | exact hC.t2 | exact hC.t3 | exact hC.t4 | exact hC.t5) (by first | rfl | exact hC.l1 | exact hC.l2 | exact hC.l3 | exact hC.l4 | exact hC.l5) (by first | omega | exact rg_of _) (by first | omega | exact rg_of _) (fun r99 => ?_)
              refine f_istore (L' := [_, _, _, _, _, _, _]) hZ dX5_step_100 rfl rfl ?_
              refine f_aload_n hZ dX5_step_102 rfl ?_
              refine gX5_28 hZ dX5_step_103 ?_
              refine f_iload_n hZ dX5_step_106 rfl ?_
              refine f_iconst hZ dX5_step_107 ?_
              refine f_isub hZ dX5_step_108 ?_
              refine f_iaload hZ dX5_step_109 (by first | rfl | exact hC.t1 | exact hC.t2 | exact hC.t3 | exact hC.t4 | exact hC.t5) (by first | rfl | exact hC.l1 | exact hC.l2 | exact hC.l3 | exact hC.l4 | exact hC.l5) (by first | omega | exact rg_of _) (by first | omega | exact rg_of _) (fun r109 => ?_)
              refine f_istore (L' := [_, _, _, _, _, _, _]) hZ dX5_step_110 rfl rfl ?_
              refine f_iload_n hZ dX5_step_112 rfl ?_
              refine f_tswIn (tgt := 164) hZ (-8) dX5_step_113 (by first | rfl | omega) (by omega) (by omega) (by omega) rfl rfl ?_
              refine f_aload_n hZ dX5_step_164 rfl ?_
              refine gX5_28 hZ dX5_step_165 ?_
              refine f_iload hZ dX5_step_168 rfl ?_
              refine f_iload hZ dX5_step_170 rfl ?_
              refine f_ne (tgt := 179) hZ dX5_step_172 rfl (by first | omega | exact rg_of _) (fun h172 => ?_) (fun h172 => ?_)
              · refine f_iconst hZ dX5_step_179 ?_
                refine f_iastore hZ dX5_step_180 (by first | rfl | exact hC.t1 | exact hC.t2 | exact hC.t3 | exact hC.t4 | exact hC.t5) (by first | rfl | exact hC.l1 | exact hC.l2 | exact hC.l3 | exact hC.l4 | exact hC.l5) (by first | omega | exact rg_of _) (by first | omega | exact rg_of _) (by first | omega | exact rg_of _) ?_
                refine f_goto (tgt := 333) hZ dX5_step_181 rfl ?_
                refine f_iload hZ dX5_step_333 rfl ?_
                refine f_iconst hZ dX5_step_335 ?_
                refine f_iadd hZ dX5_step_336 ?_
                exact f_retI hZ hR dX5_step_337 rfl (by first | omega | exact rg_of _) (by first | exact stQ_same (stp_not0 (by omega)) | (refine stQ_up (t' := t) ((stp_not (by omega)).trans ?_) (by omega); unfold notZ; first | rw [if_pos (by omega)] | rw [if_neg (by omega)]))
              · refine f_iconst hZ dX5_step_175 ?_
                refine f_goto (tgt := 180) hZ dX5_step_176 rfl ?_
                refine f_iastore hZ dX5_step_180 (by first | rfl | exact hC.t1 | exact hC.t2 | exact hC.t3 | exact hC.t4 | exact hC.t5) (by first | rfl | exact hC.l1 | exact hC.l2 | exact hC.l3 | exact hC.l4 | exact hC.l5) (by first | omega | exact rg_of _) (by first | omega | exact rg_of _) (by first | omega | exact rg_of _) ?_
                refine f_goto (tgt := 333) hZ dX5_step_181 rfl ?_
                refine f_iload hZ dX5_step_333 rfl ?_
                refine f_iconst hZ dX5_step_335 ?_
                refine f_iadd hZ dX5_step_336 ?_
                exact f_retI hZ hR dX5_step_337 rfl (by first | omega | exact rg_of _) (by first | exact stQ_same (stp_not0 (by omega)) | (refine stQ_up (t' := t) ((stp_not (by omega)).trans ?_) (by omega); unfold notZ; first | rw [if_pos (by omega)] | rw [if_neg (by omega)]))
            · refine f_iload_n hZ dX5_step_91 rfl ?_
              exact f_retI hZ hR dX5_step_92 rfl (by first | omega | exact rg_of _) (by first | exact stQ_same (stp_not0 (by omega)) | (refine stQ_up (t' := t) ((stp_not (by omega)).trans ?_) (by omega); unfold notZ; first | rw [if_pos (by omega)] | rw [if_neg (by omega)]))
        · exfalso; omega
      · exfalso; omega
    · exfalso; omega
  · refine f_iload_n hZ dX5_step_0 rfl ?_
    refine f_lt (tgt := 13) hZ dX5_step_1 rfl (by first | omega | exact rg_of _) (fun h1 => ?_) (fun h1 => ?_)
    · refine f_iload_n hZ dX5_step_13 rfl ?_
      refine f_lt (tgt := 53) hZ dX5_step_14 rfl (by first | omega | exact rg_of _) (fun h14 => ?_) (fun h14 => ?_)
      · refine f_iload_n hZ dX5_step_53 rfl ?_
        refine f_bipush hZ dX5_step_54 ?_
        refine f_ieq (tgt := 65) hZ dX5_step_56 rfl (by first | omega | exact rg_of _) (by first | omega | exact rg_of _) (fun h56 => ?_) (fun h56 => ?_)
        · exfalso; omega
        · refine f_iload_n hZ dX5_step_59 rfl ?_
          refine f_bipush hZ dX5_step_60 ?_
          refine f_ine (tgt := 69) hZ dX5_step_62 rfl (by first | omega | exact rg_of _) (by first | omega | exact rg_of _) (fun h62 => ?_) (fun h62 => ?_)
          · refine f_iconst hZ dX5_step_69 ?_
            refine f_istore_n (L' := [_, _, _, _, _, _, _]) hZ dX5_step_70 rfl rfl ?_
            refine f_iload_n hZ dX5_step_71 rfl ?_
            refine f_eq (tgt := 81) hZ dX5_step_72 rfl (by first | omega | exact rg_of _) (fun h72 => ?_) (fun h72 => ?_)
            · refine f_iload_n hZ dX5_step_81 rfl ?_
              refine f_iconst hZ dX5_step_82 ?_
              refine f_isub hZ dX5_step_83 ?_
              refine f_istore (L' := [_, _, _, _, _, _, _]) hZ dX5_step_84 rfl rfl ?_
              refine f_iload hZ dX5_step_86 rfl ?_
              refine f_ge (tgt := 93) hZ dX5_step_88 rfl (by first | omega | exact rg_of _) (fun h88 => ?_) (fun h88 => ?_)
              · refine f_aload_n hZ dX5_step_93 rfl ?_
                refine gX5_28 hZ dX5_step_94 ?_
                refine f_iload hZ dX5_step_97 rfl ?_
                refine f_iaload hZ dX5_step_99 (by first | rfl | exact hC.t1 | exact hC.t2 | exact hC.t3 | exact hC.t4 | exact hC.t5) (by first | rfl | exact hC.l1 | exact hC.l2 | exact hC.l3 | exact hC.l4 | exact hC.l5) (by first | omega | exact rg_of _) (by first | omega | exact rg_of _) (fun r99 => ?_)
                refine f_istore (L' := [_, _, _, _, _, _, _]) hZ dX5_step_100 rfl rfl ?_
                refine f_aload_n hZ dX5_step_102 rfl ?_
                refine gX5_28 hZ dX5_step_103 ?_
                refine f_iload_n hZ dX5_step_106 rfl ?_
                refine f_iconst hZ dX5_step_107 ?_
                refine f_isub hZ dX5_step_108 ?_
                refine f_iaload hZ dX5_step_109 (by first | rfl | exact hC.t1 | exact hC.t2 | exact hC.t3 | exact hC.t4 | exact hC.t5) (by first | rfl | exact hC.l1 | exact hC.l2 | exact hC.l3 | exact hC.l4 | exact hC.l5) (by first | omega | exact rg_of _) (by first | omega | exact rg_of _) (fun r109 => ?_)
                refine f_istore (L' := [_, _, _, _, _, _, _]) hZ dX5_step_110 rfl rfl ?_
                refine f_iload_n hZ dX5_step_112 rfl ?_
                refine f_tswIn (tgt := 311) hZ (-7) dX5_step_113 (by first | rfl | omega) (by omega) (by omega) (by omega) rfl rfl ?_
                refine f_aload_n hZ dX5_step_311 rfl ?_
                refine gX5_28 hZ dX5_step_312 ?_
                refine f_iload hZ dX5_step_315 rfl ?_
                refine f_iload hZ dX5_step_317 rfl ?_
                refine f_ne (tgt := 327) hZ dX5_step_319 rfl (by first | omega | exact rg_of _) (fun h319 => ?_) (fun h319 => ?_)
                · refine f_iconst hZ dX5_step_327 ?_
                  refine f_goto (tgt := 332) hZ dX5_step_328 rfl ?_
                  refine f_iastore hZ dX5_step_332 (by first | rfl | exact hC.t1 | exact hC.t2 | exact hC.t3 | exact hC.t4 | exact hC.t5) (by first | rfl | exact hC.l1 | exact hC.l2 | exact hC.l3 | exact hC.l4 | exact hC.l5) (by first | omega | exact rg_of _) (by first | omega | exact rg_of _) (by first | omega | exact rg_of _) ?_
                  refine f_iload hZ dX5_step_333 rfl ?_
                  refine f_iconst hZ dX5_step_335 ?_
                  refine f_iadd hZ dX5_step_336 ?_
                  exact f_retI hZ hR dX5_step_337 rfl (by first | omega | exact rg_of _) (by first | exact stQ_same (stp_bin0 (by omega) (by omega)) | (refine stQ_up (t' := t - 1) ((stp_bin (by omega) (by omega)).trans ?_) (by omega); rw [bz7] <;> first | rw [if_pos (by omega)] | rw [if_neg (by omega)]))
                · refine f_iload hZ dX5_step_322 rfl ?_
                  refine f_eq (tgt := 331) hZ dX5_step_324 rfl (by first | omega | exact rg_of _) (fun h324 => ?_) (fun h324 => ?_)
                  · refine f_iconst hZ dX5_step_331 ?_
                    refine f_iastore hZ dX5_step_332 (by first | rfl | exact hC.t1 | exact hC.t2 | exact hC.t3 | exact hC.t4 | exact hC.t5) (by first | rfl | exact hC.l1 | exact hC.l2 | exact hC.l3 | exact hC.l4 | exact hC.l5) (by first | omega | exact rg_of _) (by first | omega | exact rg_of _) (by first | omega | exact rg_of _) ?_
                    refine f_iload hZ dX5_step_333 rfl ?_
                    refine f_iconst hZ dX5_step_335 ?_
                    refine f_iadd hZ dX5_step_336 ?_
                    exact f_retI hZ hR dX5_step_337 rfl (by first | omega | exact rg_of _) (by first | exact stQ_same (stp_bin0 (by omega) (by omega)) | (refine stQ_up (t' := t - 1) ((stp_bin (by omega) (by omega)).trans ?_) (by omega); rw [bz7] <;> first | rw [if_pos (by omega)] | rw [if_neg (by omega)]))
                  · refine f_iconst hZ dX5_step_327 ?_
                    refine f_goto (tgt := 332) hZ dX5_step_328 rfl ?_
                    refine f_iastore hZ dX5_step_332 (by first | rfl | exact hC.t1 | exact hC.t2 | exact hC.t3 | exact hC.t4 | exact hC.t5) (by first | rfl | exact hC.l1 | exact hC.l2 | exact hC.l3 | exact hC.l4 | exact hC.l5) (by first | omega | exact rg_of _) (by first | omega | exact rg_of _) (by first | omega | exact rg_of _) ?_
                    refine f_iload hZ dX5_step_333 rfl ?_
                    refine f_iconst hZ dX5_step_335 ?_
                    refine f_iadd hZ dX5_step_336 ?_
                    exact f_retI hZ hR dX5_step_337 rfl (by first | omega | exact rg_of _) (by first | exact stQ_same (stp_bin0 (by omega) (by omega)) | (refine stQ_up (t' := t - 1) ((stp_bin (by omega) (by omega)).trans ?_) (by omega); rw [bz7] <;> first | rw [if_pos (by omega)] | rw [if_neg (by omega)]))
              · refine f_iload_n hZ dX5_step_91 rfl ?_
                exact f_retI hZ hR dX5_step_92 rfl (by first | omega | exact rg_of _) (by first | exact stQ_same (stp_bin0 (by omega) (by omega)) | (refine stQ_up (t' := t - 1) ((stp_bin (by omega) (by omega)).trans ?_) (by omega); rw [bz7] <;> first | rw [if_pos (by omega)] | rw [if_neg (by omega)]))
            · exfalso; omega
          · exfalso; omega
      · exfalso; omega
    · exfalso; omega
  · refine f_iload_n hZ dX5_step_0 rfl ?_
    refine f_lt (tgt := 13) hZ dX5_step_1 rfl (by first | omega | exact rg_of _) (fun h1 => ?_) (fun h1 => ?_)
    · refine f_iload_n hZ dX5_step_13 rfl ?_
      refine f_lt (tgt := 53) hZ dX5_step_14 rfl (by first | omega | exact rg_of _) (fun h14 => ?_) (fun h14 => ?_)
      · refine f_iload_n hZ dX5_step_53 rfl ?_
        refine f_bipush hZ dX5_step_54 ?_
        refine f_ieq (tgt := 65) hZ dX5_step_56 rfl (by first | omega | exact rg_of _) (by first | omega | exact rg_of _) (fun h56 => ?_) (fun h56 => ?_)
        · exfalso; omega
        · refine f_iload_n hZ dX5_step_59 rfl ?_
          refine f_bipush hZ dX5_step_60 ?_
          refine f_ine (tgt := 69) hZ dX5_step_62 rfl (by first | omega | exact rg_of _) (by first | omega | exact rg_of _) (fun h62 => ?_) (fun h62 => ?_)
          · refine f_iconst hZ dX5_step_69 ?_
            refine f_istore_n (L' := [_, _, _, _, _, _, _]) hZ dX5_step_70 rfl rfl ?_
            refine f_iload_n hZ dX5_step_71 rfl ?_
            refine f_eq (tgt := 81) hZ dX5_step_72 rfl (by first | omega | exact rg_of _) (fun h72 => ?_) (fun h72 => ?_)
            · refine f_iload_n hZ dX5_step_81 rfl ?_
              refine f_iconst hZ dX5_step_82 ?_
              refine f_isub hZ dX5_step_83 ?_
              refine f_istore (L' := [_, _, _, _, _, _, _]) hZ dX5_step_84 rfl rfl ?_
              refine f_iload hZ dX5_step_86 rfl ?_
              refine f_ge (tgt := 93) hZ dX5_step_88 rfl (by first | omega | exact rg_of _) (fun h88 => ?_) (fun h88 => ?_)
              · refine f_aload_n hZ dX5_step_93 rfl ?_
                refine gX5_28 hZ dX5_step_94 ?_
                refine f_iload hZ dX5_step_97 rfl ?_
                refine f_iaload hZ dX5_step_99 (by first | rfl | exact hC.t1 | exact hC.t2 | exact hC.t3 | exact hC.t4 | exact hC.t5) (by first | rfl | exact hC.l1 | exact hC.l2 | exact hC.l3 | exact hC.l4 | exact hC.l5) (by first | omega | exact rg_of _) (by first | omega | exact rg_of _) (fun r99 => ?_)
                refine f_istore (L' := [_, _, _, _, _, _, _]) hZ dX5_step_100 rfl rfl ?_
                refine f_aload_n hZ dX5_step_102 rfl ?_
                refine gX5_28 hZ dX5_step_103 ?_
                refine f_iload_n hZ dX5_step_106 rfl ?_
                refine f_iconst hZ dX5_step_107 ?_
                refine f_isub hZ dX5_step_108 ?_
                refine f_iaload hZ dX5_step_109 (by first | rfl | exact hC.t1 | exact hC.t2 | exact hC.t3 | exact hC.t4 | exact hC.t5) (by first | rfl | exact hC.l1 | exact hC.l2 | exact hC.l3 | exact hC.l4 | exact hC.l5) (by first | omega | exact rg_of _) (by first | omega | exact rg_of _) (fun r109 => ?_)
                refine f_istore (L' := [_, _, _, _, _, _, _]) hZ dX5_step_110 rfl rfl ?_
                refine f_iload_n hZ dX5_step_112 rfl ?_
                refine f_tswIn (tgt := 286) hZ (-6) dX5_step_113 (by first | rfl | omega) (by omega) (by omega) (by omega) rfl rfl ?_
                refine f_aload_n hZ dX5_step_286 rfl ?_
                refine gX5_28 hZ dX5_step_287 ?_
                refine f_iload hZ dX5_step_290 rfl ?_
                refine f_iload hZ dX5_step_292 rfl ?_
                refine f_eq (tgt := 306) hZ dX5_step_294 rfl (by first | omega | exact rg_of _) (fun h294 => ?_) (fun h294 => ?_)
                · refine f_iconst hZ dX5_step_306 ?_
                  refine f_iastore hZ dX5_step_307 (by first | rfl | exact hC.t1 | exact hC.t2 | exact hC.t3 | exact hC.t4 | exact hC.t5) (by first | rfl | exact hC.l1 | exact hC.l2 | exact hC.l3 | exact hC.l4 | exact hC.l5) (by first | omega | exact rg_of _) (by first | omega | exact rg_of _) (by first | omega | exact rg_of _) ?_
                  refine f_goto (tgt := 333) hZ dX5_step_308 rfl ?_
                  refine f_iload hZ dX5_step_333 rfl ?_
                  refine f_iconst hZ dX5_step_335 ?_
                  refine f_iadd hZ dX5_step_336 ?_
                  exact f_retI hZ hR dX5_step_337 rfl (by first | omega | exact rg_of _) (by first | exact stQ_same (stp_bin0 (by omega) (by omega)) | (refine stQ_up (t' := t - 1) ((stp_bin (by omega) (by omega)).trans ?_) (by omega); rw [bz6] <;> first | rw [if_pos (by omega)] | rw [if_neg (by omega)]))
                · refine f_iload hZ dX5_step_297 rfl ?_
                  refine f_eq (tgt := 306) hZ dX5_step_299 rfl (by first | omega | exact rg_of _) (fun h299 => ?_) (fun h299 => ?_)
                  · refine f_iconst hZ dX5_step_306 ?_
                    refine f_iastore hZ dX5_step_307 (by first | rfl | exact hC.t1 | exact hC.t2 | exact hC.t3 | exact hC.t4 | exact hC.t5) (by first | rfl | exact hC.l1 | exact hC.l2 | exact hC.l3 | exact hC.l4 | exact hC.l5) (by first | omega | exact rg_of _) (by first | omega | exact rg_of _) (by first | omega | exact rg_of _) ?_
                    refine f_goto (tgt := 333) hZ dX5_step_308 rfl ?_
                    refine f_iload hZ dX5_step_333 rfl ?_
                    refine f_iconst hZ dX5_step_335 ?_
                    refine f_iadd hZ dX5_step_336 ?_
                    exact f_retI hZ hR dX5_step_337 rfl (by first | omega | exact rg_of _) (by first | exact stQ_same (stp_bin0 (by omega) (by omega)) | (refine stQ_up (t' := t - 1) ((stp_bin (by omega) (by omega)).trans ?_) (by omega); rw [bz6] <;> first | rw [if_pos (by omega)] | rw [if_neg (by omega)]))
                  · refine f_iconst hZ dX5_step_302 ?_
                    refine f_goto (tgt := 307) hZ dX5_step_303 rfl ?_
                    refine f_iastore hZ dX5_step_307 (by first | rfl | exact hC.t1 | exact hC.t2 | exact hC.t3 | exact hC.t4 | exact hC.t5) (by first | rfl | exact hC.l1 | exact hC.l2 | exact hC.l3 | exact hC.l4 | exact hC.l5) (by first | omega | exact rg_of _) (by first | omega | exact rg_of _) (by first | omega | exact rg_of _) ?_
                    refine f_goto (tgt := 333) hZ dX5_step_308 rfl ?_
                    refine f_iload hZ dX5_step_333 rfl ?_
                    refine f_iconst hZ dX5_step_335 ?_
                    refine f_iadd hZ dX5_step_336 ?_
                    exact f_retI hZ hR dX5_step_337 rfl (by first | omega | exact rg_of _) (by first | exact stQ_same (stp_bin0 (by omega) (by omega)) | (refine stQ_up (t' := t - 1) ((stp_bin (by omega) (by omega)).trans ?_) (by omega); rw [bz6] <;> first | rw [if_pos (by omega)] | rw [if_neg (by omega)]))
              · refine f_iload_n hZ dX5_step_91 rfl ?_
                exact f_retI hZ hR dX5_step_92 rfl (by first | omega | exact rg_of _) (by first | exact stQ_same (stp_bin0 (by omega) (by omega)) | (refine stQ_up (t' := t - 1) ((stp_bin (by omega) (by omega)).trans ?_) (by omega); rw [bz6] <;> first | rw [if_pos (by omega)] | rw [if_neg (by omega)]))
            · exfalso; omega
          · exfalso; omega
      · exfalso; omega
    · exfalso; omega
  · refine f_iload_n hZ dX5_step_0 rfl ?_
    refine f_lt (tgt := 13) hZ dX5_step_1 rfl (by first | omega | exact rg_of _) (fun h1 => ?_) (fun h1 => ?_)
    · refine f_iload_n hZ dX5_step_13 rfl ?_
      refine f_lt (tgt := 53) hZ dX5_step_14 rfl (by first | omega | exact rg_of _) (fun h14 => ?_) (fun h14 => ?_)
      · refine f_iload_n hZ dX5_step_53 rfl ?_
        refine f_bipush hZ dX5_step_54 ?_
        refine f_ieq (tgt := 65) hZ dX5_step_56 rfl (by first | omega | exact rg_of _) (by first | omega | exact rg_of _) (fun h56 => ?_) (fun h56 => ?_)
        · exfalso; omega
        · refine f_iload_n hZ dX5_step_59 rfl ?_
          refine f_bipush hZ dX5_step_60 ?_
          refine f_ine (tgt := 69) hZ dX5_step_62 rfl (by first | omega | exact rg_of _) (by first | omega | exact rg_of _) (fun h62 => ?_) (fun h62 => ?_)
          · refine f_iconst hZ dX5_step_69 ?_
            refine f_istore_n (L' := [_, _, _, _, _, _, _]) hZ dX5_step_70 rfl rfl ?_
            refine f_iload_n hZ dX5_step_71 rfl ?_
            refine f_eq (tgt := 81) hZ dX5_step_72 rfl (by first | omega | exact rg_of _) (fun h72 => ?_) (fun h72 => ?_)
            · refine f_iload_n hZ dX5_step_81 rfl ?_
              refine f_iconst hZ dX5_step_82 ?_
              refine f_isub hZ dX5_step_83 ?_
              refine f_istore (L' := [_, _, _, _, _, _, _]) hZ dX5_step_84 rfl rfl ?_
              refine f_iload hZ dX5_step_86 rfl ?_
              refine f_ge (tgt := 93) hZ dX5_step_88 rfl (by first | omega | exact rg_of _) (fun h88 => ?_) (fun h88 => ?_)
              · refine f_aload_n hZ dX5_step_93 rfl ?_
                refine gX5_28 hZ dX5_step_94 ?_
                refine f_iload hZ dX5_step_97 rfl ?_
                refine f_iaload hZ dX5_step_99 (by first | rfl | exact hC.t1 | exact hC.t2 | exact hC.t3 | exact hC.t4 | exact hC.t5) (by first | rfl | exact hC.l1 | exact hC.l2 | exact hC.l3 | exact hC.l4 | exact hC.l5) (by first | omega | exact rg_of _) (by first | omega | exact rg_of _) (fun r99 => ?_)
                refine f_istore (L' := [_, _, _, _, _, _, _]) hZ dX5_step_100 rfl rfl ?_
                refine f_aload_n hZ dX5_step_102 rfl ?_
                refine gX5_28 hZ dX5_step_103 ?_
                refine f_iload_n hZ dX5_step_106 rfl ?_
                refine f_iconst hZ dX5_step_107 ?_
                refine f_isub hZ dX5_step_108 ?_
                refine f_iaload hZ dX5_step_109 (by first | rfl | exact hC.t1 | exact hC.t2 | exact hC.t3 | exact hC.t4 | exact hC.t5) (by first | rfl | exact hC.l1 | exact hC.l2 | exact hC.l3 | exact hC.l4 | exact hC.l5) (by first | omega | exact rg_of _) (by first | omega | exact rg_of _) (fun r109 => ?_)
                refine f_istore (L' := [_, _, _, _, _, _, _]) hZ dX5_step_110 rfl rfl ?_
                refine f_iload_n hZ dX5_step_112 rfl ?_
                refine f_tswIn (tgt := 264) hZ (-5) dX5_step_113 (by first | rfl | omega) (by omega) (by omega) (by omega) rfl rfl ?_
                refine f_aload_n hZ dX5_step_264 rfl ?_
                refine gX5_28 hZ dX5_step_265 ?_
                refine f_iload hZ dX5_step_268 rfl ?_
                refine f_iload hZ dX5_step_270 rfl ?_
                refine f_iload hZ dX5_step_272 rfl ?_
                refine f_ine (tgt := 281) hZ dX5_step_274 rfl (by first | omega | exact rg_of _) (by first | omega | exact rg_of _) (fun h274 => ?_) (fun h274 => ?_)
                · refine f_iconst hZ dX5_step_281 ?_
                  refine f_iastore hZ dX5_step_282 (by first | rfl | exact hC.t1 | exact hC.t2 | exact hC.t3 | exact hC.t4 | exact hC.t5) (by first | rfl | exact hC.l1 | exact hC.l2 | exact hC.l3 | exact hC.l4 | exact hC.l5) (by first | omega | exact rg_of _) (by first | omega | exact rg_of _) (by first | omega | exact rg_of _) ?_
                  refine f_goto (tgt := 333) hZ dX5_step_283 rfl ?_
                  refine f_iload hZ dX5_step_333 rfl ?_
                  refine f_iconst hZ dX5_step_335 ?_
                  refine f_iadd hZ dX5_step_336 ?_
                  exact f_retI hZ hR dX5_step_337 rfl (by first | omega | exact rg_of _) (by first | exact stQ_same (stp_bin0 (by omega) (by omega)) | (refine stQ_up (t' := t - 1) ((stp_bin (by omega) (by omega)).trans ?_) (by omega); rw [bz5] <;> first | rw [if_pos (by omega)] | rw [if_neg (by omega)]))
                · refine f_iconst hZ dX5_step_277 ?_
                  refine f_goto (tgt := 282) hZ dX5_step_278 rfl ?_
                  refine f_iastore hZ dX5_step_282 (by first | rfl | exact hC.t1 | exact hC.t2 | exact hC.t3 | exact hC.t4 | exact hC.t5) (by first | rfl | exact hC.l1 | exact hC.l2 | exact hC.l3 | exact hC.l4 | exact hC.l5) (by first | omega | exact rg_of _) (by first | omega | exact rg_of _) (by first | omega | exact rg_of _) ?_
                  refine f_goto (tgt := 333) hZ dX5_step_283 rfl ?_
                  refine f_iload hZ dX5_step_333 rfl ?_
                  refine f_iconst hZ dX5_step_335 ?_
                  refine f_iadd hZ dX5_step_336 ?_
                  exact f_retI hZ hR dX5_step_337 rfl (by first | omega | exact rg_of _) (by first | exact stQ_same (stp_bin0 (by omega) (by omega)) | (refine stQ_up (t' := t - 1) ((stp_bin (by omega) (by omega)).trans ?_) (by omega); rw [bz5] <;> first | rw [if_pos (by omega)] | rw [if_neg (by omega)]))
              · refine f_iload_n hZ dX5_step_91 rfl ?_
                exact f_retI hZ hR dX5_step_92 rfl (by first | omega | exact rg_of _) (by first | exact stQ_same (stp_bin0 (by omega) (by omega)) | (refine stQ_up (t' := t - 1) ((stp_bin (by omega) (by omega)).trans ?_) (by omega); rw [bz5] <;> first | rw [if_pos (by omega)] | rw [if_neg (by omega)]))
            · exfalso; omega
          · exfalso; omega
      · exfalso; omega
    · exfalso; omega
  · refine f_iload_n hZ dX5_step_0 rfl ?_
    refine f_lt (tgt := 13) hZ dX5_step_1 rfl (by first | omega | exact rg_of _) (fun h1 => ?_) (fun h1 => ?_)
    · refine f_iload_n hZ dX5_step_13 rfl ?_
      refine f_lt (tgt := 53) hZ dX5_step_14 rfl (by first | omega | exact rg_of _) (fun h14 => ?_) (fun h14 => ?_)
      · refine f_iload_n hZ dX5_step_53 rfl ?_
        refine f_bipush hZ dX5_step_54 ?_
        refine f_ieq (tgt := 65) hZ dX5_step_56 rfl (by first | omega | exact rg_of _) (by first | omega | exact rg_of _) (fun h56 => ?_) (fun h56 => ?_)
        · exfalso; omega
        · refine f_iload_n hZ dX5_step_59 rfl ?_
          refine f_bipush hZ dX5_step_60 ?_
          refine f_ine (tgt := 69) hZ dX5_step_62 rfl (by first | omega | exact rg_of _) (by first | omega | exact rg_of _) (fun h62 => ?_) (fun h62 => ?_)
          · refine f_iconst hZ dX5_step_69 ?_
            refine f_istore_n (L' := [_, _, _, _, _, _, _]) hZ dX5_step_70 rfl rfl ?_
            refine f_iload_n hZ dX5_step_71 rfl ?_
            refine f_eq (tgt := 81) hZ dX5_step_72 rfl (by first | omega | exact rg_of _) (fun h72 => ?_) (fun h72 => ?_)
            · refine f_iload_n hZ dX5_step_81 rfl ?_
              refine f_iconst hZ dX5_step_82 ?_
              refine f_isub hZ dX5_step_83 ?_
              refine f_istore (L' := [_, _, _, _, _, _, _]) hZ dX5_step_84 rfl rfl ?_
              refine f_iload hZ dX5_step_86 rfl ?_
              refine f_ge (tgt := 93) hZ dX5_step_88 rfl (by first | omega | exact rg_of _) (fun h88 => ?_) (fun h88 => ?_)
              · refine f_aload_n hZ dX5_step_93 rfl ?_
                refine gX5_28 hZ dX5_step_94 ?_
                refine f_iload hZ dX5_step_97 rfl ?_
                refine f_iaload hZ dX5_step_99 (by first | rfl | exact hC.t1 | exact hC.t2 | exact hC.t3 | exact hC.t4 | exact hC.t5) (by first | rfl | exact hC.l1 | exact hC.l2 | exact hC.l3 | exact hC.l4 | exact hC.l5) (by first | omega | exact rg_of _) (by first | omega | exact rg_of _) (fun r99 => ?_)
                refine f_istore (L' := [_, _, _, _, _, _, _]) hZ dX5_step_100 rfl rfl ?_
                refine f_aload_n hZ dX5_step_102 rfl ?_
                refine gX5_28 hZ dX5_step_103 ?_
                refine f_iload_n hZ dX5_step_106 rfl ?_
                refine f_iconst hZ dX5_step_107 ?_
                refine f_isub hZ dX5_step_108 ?_
                refine f_iaload hZ dX5_step_109 (by first | rfl | exact hC.t1 | exact hC.t2 | exact hC.t3 | exact hC.t4 | exact hC.t5) (by first | rfl | exact hC.l1 | exact hC.l2 | exact hC.l3 | exact hC.l4 | exact hC.l5) (by first | omega | exact rg_of _) (by first | omega | exact rg_of _) (fun r109 => ?_)
                refine f_istore (L' := [_, _, _, _, _, _, _]) hZ dX5_step_110 rfl rfl ?_
                refine f_iload_n hZ dX5_step_112 rfl ?_
                refine f_tswIn (tgt := 242) hZ (-4) dX5_step_113 (by first | rfl | omega) (by omega) (by omega) (by omega) rfl rfl ?_
                refine f_aload_n hZ dX5_step_242 rfl ?_
                refine gX5_28 hZ dX5_step_243 ?_
                refine f_iload hZ dX5_step_246 rfl ?_
                refine f_iload hZ dX5_step_248 rfl ?_
                refine f_iload hZ dX5_step_250 rfl ?_
                refine f_ige (tgt := 259) hZ dX5_step_252 rfl (by first | omega | exact rg_of _) (by first | omega | exact rg_of _) (fun h252 => ?_) (fun h252 => ?_)
                · refine f_iconst hZ dX5_step_259 ?_
                  refine f_iastore hZ dX5_step_260 (by first | rfl | exact hC.t1 | exact hC.t2 | exact hC.t3 | exact hC.t4 | exact hC.t5) (by first | rfl | exact hC.l1 | exact hC.l2 | exact hC.l3 | exact hC.l4 | exact hC.l5) (by first | omega | exact rg_of _) (by first | omega | exact rg_of _) (by first | omega | exact rg_of _) ?_
                  refine f_goto (tgt := 333) hZ dX5_step_261 rfl ?_
                  refine f_iload hZ dX5_step_333 rfl ?_
                  refine f_iconst hZ dX5_step_335 ?_
                  refine f_iadd hZ dX5_step_336 ?_
                  exact f_retI hZ hR dX5_step_337 rfl (by first | omega | exact rg_of _) (by first | exact stQ_same (stp_bin0 (by omega) (by omega)) | (refine stQ_up (t' := t - 1) ((stp_bin (by omega) (by omega)).trans ?_) (by omega); rw [bz4] <;> first | rw [if_pos (by omega)] | rw [if_neg (by omega)]))
                · refine f_iconst hZ dX5_step_255 ?_
                  refine f_goto (tgt := 260) hZ dX5_step_256 rfl ?_
                  refine f_iastore hZ dX5_step_260 (by first | rfl | exact hC.t1 | exact hC.t2 | exact hC.t3 | exact hC.t4 | exact hC.t5) (by first | rfl | exact hC.l1 | exact hC.l2 | exact hC.l3 | exact hC.l4 | exact hC.l5) (by first | omega | exact rg_of _) (by first | omega | exact rg_of _) (by first | omega | exact rg_of _) ?_
                  refine f_goto (tgt := 333) hZ dX5_step_261 rfl ?_
                  refine f_iload hZ dX5_step_333 rfl ?_
                  refine f_iconst hZ dX5_step_335 ?_
                  refine f_iadd hZ dX5_step_336 ?_
                  exact f_retI hZ hR dX5_step_337 rfl (by first | omega | exact rg_of _) (by first | exact stQ_same (stp_bin0 (by omega) (by omega)) | (refine stQ_up (t' := t - 1) ((stp_bin (by omega) (by omega)).trans ?_) (by omega); rw [bz4] <;> first | rw [if_pos (by omega)] | rw [if_neg (by omega)]))
              · refine f_iload_n hZ dX5_step_91 rfl ?_
                exact f_retI hZ hR dX5_step_92 rfl (by first | omega | exact rg_of _) (by first | exact stQ_same (stp_bin0 (by omega) (by omega)) | (refine stQ_up (t' := t - 1) ((stp_bin (by omega) (by omega)).trans ?_) (by omega); rw [bz4] <;> first | rw [if_pos (by omega)] | rw [if_neg (by omega)]))
            · exfalso; omega
          · exfalso; omega
      · exfalso; omega
    · exfalso; omega
  · refine f_iload_n hZ dX5_step_0 rfl ?_
    refine f_lt (tgt := 13) hZ dX5_step_1 rfl (by first | omega | exact rg_of _) (fun h1 => ?_) (fun h1 => ?_)
    · refine f_iload_n hZ dX5_step_13 rfl ?_
      refine f_lt (tgt := 53) hZ dX5_step_14 rfl (by first | omega | exact rg_of _) (fun h14 => ?_) (fun h14 => ?_)
      · refine f_iload_n hZ dX5_step_53 rfl ?_
        refine f_bipush hZ dX5_step_54 ?_
        refine f_ieq (tgt := 65) hZ dX5_step_56 rfl (by first | omega | exact rg_of _) (by first | omega | exact rg_of _) (fun h56 => ?_) (fun h56 => ?_)
        · exfalso; omega
        · refine f_iload_n hZ dX5_step_59 rfl ?_
          refine f_bipush hZ dX5_step_60 ?_
          refine f_ine (tgt := 69) hZ dX5_step_62 rfl (by first | omega | exact rg_of _) (by first | omega | exact rg_of _) (fun h62 => ?_) (fun h62 => ?_)
          · refine f_iconst hZ dX5_step_69 ?_
            refine f_istore_n (L' := [_, _, _, _, _, _, _]) hZ dX5_step_70 rfl rfl ?_
            refine f_iload_n hZ dX5_step_71 rfl ?_
            refine f_eq (tgt := 81) hZ dX5_step_72 rfl (by first | omega | exact rg_of _) (fun h72 => ?_) (fun h72 => ?_)
            · refine f_iload_n hZ dX5_step_81 rfl ?_
              refine f_iconst hZ dX5_step_82 ?_
              refine f_isub hZ dX5_step_83 ?_
              refine f_istore (L' := [_, _, _, _, _, _, _]) hZ dX5_step_84 rfl rfl ?_
              refine f_iload hZ dX5_step_86 rfl ?_
              refine f_ge (tgt := 93) hZ dX5_step_88 rfl (by first | omega | exact rg_of _) (fun h88 => ?_) (fun h88 => ?_)
              · refine f_aload_n hZ dX5_step_93 rfl ?_
                refine gX5_28 hZ dX5_step_94 ?_
                refine f_iload hZ dX5_step_97 rfl ?_
                refine f_iaload hZ dX5_step_99 (by first | rfl | exact hC.t1 | exact hC.t2 | exact hC.t3 | exact hC.t4 | exact hC.t5) (by first | rfl | exact hC.l1 | exact hC.l2 | exact hC.l3 | exact hC.l4 | exact hC.l5) (by first | omega | exact rg_of _) (by first | omega | exact rg_of _) (fun r99 => ?_)
                refine f_istore (L' := [_, _, _, _, _, _, _]) hZ dX5_step_100 rfl rfl ?_
                refine f_aload_n hZ dX5_step_102 rfl ?_
                refine gX5_28 hZ dX5_step_103 ?_
                refine f_iload_n hZ dX5_step_106 rfl ?_
                refine f_iconst hZ dX5_step_107 ?_
                refine f_isub hZ dX5_step_108 ?_
                refine f_iaload hZ dX5_step_109 (by first | rfl | exact hC.t1 | exact hC.t2 | exact hC.t3 | exact hC.t4 | exact hC.t5) (by first | rfl | exact hC.l1 | exact hC.l2 | exact hC.l3 | exact hC.l4 | exact hC.l5) (by first | omega | exact rg_of _) (by first | omega | exact rg_of _) (fun r109 => ?_)
                refine f_istore (L' := [_, _, _, _, _, _, _]) hZ dX5_step_110 rfl rfl ?_
                refine f_iload_n hZ dX5_step_112 rfl ?_
                refine f_tswIn (tgt := 227) hZ (-3) dX5_step_113 (by first | rfl | omega) (by omega) (by omega) (by omega) rfl rfl ?_
                refine f_aload_n hZ dX5_step_227 rfl ?_
                refine gX5_28 hZ dX5_step_228 ?_
                refine f_iload hZ dX5_step_231 rfl ?_
                refine f_iload hZ dX5_step_233 rfl ?_
                refine f_iload hZ dX5_step_235 rfl ?_
                refine f_imul hZ dX5_step_237 ?_
                refine f_wrap ?_
                refine f_iastore hZ dX5_step_238 (by first | rfl | exact hC.t1 | exact hC.t2 | exact hC.t3 | exact hC.t4 | exact hC.t5) (by first | rfl | exact hC.l1 | exact hC.l2 | exact hC.l3 | exact hC.l4 | exact hC.l5) (by first | omega | exact rg_of _) (by first | omega | exact rg_of _) (by first | omega | exact rg_of _) ?_
                refine f_goto (tgt := 333) hZ dX5_step_239 rfl ?_
                refine f_iload hZ dX5_step_333 rfl ?_
                refine f_iconst hZ dX5_step_335 ?_
                refine f_iadd hZ dX5_step_336 ?_
                exact f_retI hZ hR dX5_step_337 rfl (by first | omega | exact rg_of _) (by first | exact stQ_same (stp_bin0 (by omega) (by omega)) | (refine stQ_up (t' := t - 1) ((stp_bin (by omega) (by omega)).trans ?_) (by omega); rw [bz3]))
              · refine f_iload_n hZ dX5_step_91 rfl ?_
                exact f_retI hZ hR dX5_step_92 rfl (by first | omega | exact rg_of _) (by first | exact stQ_same (stp_bin0 (by omega) (by omega)) | (refine stQ_up (t' := t - 1) ((stp_bin (by omega) (by omega)).trans ?_) (by omega); rw [bz3]))
            · exfalso; omega
          · exfalso; omega
      · exfalso; omega
    · exfalso; omega
  · refine f_iload_n hZ dX5_step_0 rfl ?_
    refine f_lt (tgt := 13) hZ dX5_step_1 rfl (by first | omega | exact rg_of _) (fun h1 => ?_) (fun h1 => ?_)
    · refine f_iload_n hZ dX5_step_13 rfl ?_
      refine f_lt (tgt := 53) hZ dX5_step_14 rfl (by first | omega | exact rg_of _) (fun h14 => ?_) (fun h14 => ?_)
      · refine f_iload_n hZ dX5_step_53 rfl ?_
        refine f_bipush hZ dX5_step_54 ?_
        refine f_ieq (tgt := 65) hZ dX5_step_56 rfl (by first | omega | exact rg_of _) (by first | omega | exact rg_of _) (fun h56 => ?_) (fun h56 => ?_)
        · exfalso; omega
        · refine f_iload_n hZ dX5_step_59 rfl ?_
          refine f_bipush hZ dX5_step_60 ?_
          refine f_ine (tgt := 69) hZ dX5_step_62 rfl (by first | omega | exact rg_of _) (by first | omega | exact rg_of _) (fun h62 => ?_) (fun h62 => ?_)
          · refine f_iconst hZ dX5_step_69 ?_
            refine f_istore_n (L' := [_, _, _, _, _, _, _]) hZ dX5_step_70 rfl rfl ?_
            refine f_iload_n hZ dX5_step_71 rfl ?_
            refine f_eq (tgt := 81) hZ dX5_step_72 rfl (by first | omega | exact rg_of _) (fun h72 => ?_) (fun h72 => ?_)
            · refine f_iload_n hZ dX5_step_81 rfl ?_
              refine f_iconst hZ dX5_step_82 ?_
              refine f_isub hZ dX5_step_83 ?_
              refine f_istore (L' := [_, _, _, _, _, _, _]) hZ dX5_step_84 rfl rfl ?_
              refine f_iload hZ dX5_step_86 rfl ?_
              refine f_ge (tgt := 93) hZ dX5_step_88 rfl (by first | omega | exact rg_of _) (fun h88 => ?_) (fun h88 => ?_)
              · refine f_aload_n hZ dX5_step_93 rfl ?_
                refine gX5_28 hZ dX5_step_94 ?_
                refine f_iload hZ dX5_step_97 rfl ?_
                refine f_iaload hZ dX5_step_99 (by first | rfl | exact hC.t1 | exact hC.t2 | exact hC.t3 | exact hC.t4 | exact hC.t5) (by first | rfl | exact hC.l1 | exact hC.l2 | exact hC.l3 | exact hC.l4 | exact hC.l5) (by first | omega | exact rg_of _) (by first | omega | exact rg_of _) (fun r99 => ?_)
                refine f_istore (L' := [_, _, _, _, _, _, _]) hZ dX5_step_100 rfl rfl ?_
                refine f_aload_n hZ dX5_step_102 rfl ?_
                refine gX5_28 hZ dX5_step_103 ?_
                refine f_iload_n hZ dX5_step_106 rfl ?_
                refine f_iconst hZ dX5_step_107 ?_
                refine f_isub hZ dX5_step_108 ?_
                refine f_iaload hZ dX5_step_109 (by first | rfl | exact hC.t1 | exact hC.t2 | exact hC.t3 | exact hC.t4 | exact hC.t5) (by first | rfl | exact hC.l1 | exact hC.l2 | exact hC.l3 | exact hC.l4 | exact hC.l5) (by first | omega | exact rg_of _) (by first | omega | exact rg_of _) (fun r109 => ?_)
                refine f_istore (L' := [_, _, _, _, _, _, _]) hZ dX5_step_110 rfl rfl ?_
                refine f_iload_n hZ dX5_step_112 rfl ?_
                refine f_tswIn (tgt := 212) hZ (-2) dX5_step_113 (by first | rfl | omega) (by omega) (by omega) (by omega) rfl rfl ?_
                refine f_aload_n hZ dX5_step_212 rfl ?_
                refine gX5_28 hZ dX5_step_213 ?_
                refine f_iload hZ dX5_step_216 rfl ?_
                refine f_iload hZ dX5_step_218 rfl ?_
                refine f_iload hZ dX5_step_220 rfl ?_
                refine f_isub hZ dX5_step_222 ?_
                refine f_wrap ?_
                refine f_iastore hZ dX5_step_223 (by first | rfl | exact hC.t1 | exact hC.t2 | exact hC.t3 | exact hC.t4 | exact hC.t5) (by first | rfl | exact hC.l1 | exact hC.l2 | exact hC.l3 | exact hC.l4 | exact hC.l5) (by first | omega | exact rg_of _) (by first | omega | exact rg_of _) (by first | omega | exact rg_of _) ?_
                refine f_goto (tgt := 333) hZ dX5_step_224 rfl ?_
                refine f_iload hZ dX5_step_333 rfl ?_
                refine f_iconst hZ dX5_step_335 ?_
                refine f_iadd hZ dX5_step_336 ?_
                exact f_retI hZ hR dX5_step_337 rfl (by first | omega | exact rg_of _) (by first | exact stQ_same (stp_bin0 (by omega) (by omega)) | (refine stQ_up (t' := t - 1) ((stp_bin (by omega) (by omega)).trans ?_) (by omega); rw [bz2]))
              · refine f_iload_n hZ dX5_step_91 rfl ?_
                exact f_retI hZ hR dX5_step_92 rfl (by first | omega | exact rg_of _) (by first | exact stQ_same (stp_bin0 (by omega) (by omega)) | (refine stQ_up (t' := t - 1) ((stp_bin (by omega) (by omega)).trans ?_) (by omega); rw [bz2]))
            · exfalso; omega
          · exfalso; omega
      · exfalso; omega
    · exfalso; omega
  · refine f_iload_n hZ dX5_step_0 rfl ?_
    refine f_lt (tgt := 13) hZ dX5_step_1 rfl (by first | omega | exact rg_of _) (fun h1 => ?_) (fun h1 => ?_)
    · refine f_iload_n hZ dX5_step_13 rfl ?_
      refine f_lt (tgt := 53) hZ dX5_step_14 rfl (by first | omega | exact rg_of _) (fun h14 => ?_) (fun h14 => ?_)
      · refine f_iload_n hZ dX5_step_53 rfl ?_
        refine f_bipush hZ dX5_step_54 ?_
        refine f_ieq (tgt := 65) hZ dX5_step_56 rfl (by first | omega | exact rg_of _) (by first | omega | exact rg_of _) (fun h56 => ?_) (fun h56 => ?_)
        · exfalso; omega
        · refine f_iload_n hZ dX5_step_59 rfl ?_
          refine f_bipush hZ dX5_step_60 ?_
          refine f_ine (tgt := 69) hZ dX5_step_62 rfl (by first | omega | exact rg_of _) (by first | omega | exact rg_of _) (fun h62 => ?_) (fun h62 => ?_)
          · refine f_iconst hZ dX5_step_69 ?_
            refine f_istore_n (L' := [_, _, _, _, _, _, _]) hZ dX5_step_70 rfl rfl ?_
            refine f_iload_n hZ dX5_step_71 rfl ?_
            refine f_eq (tgt := 81) hZ dX5_step_72 rfl (by first | omega | exact rg_of _) (fun h72 => ?_) (fun h72 => ?_)
            · refine f_iload_n hZ dX5_step_81 rfl ?_
              refine f_iconst hZ dX5_step_82 ?_
              refine f_isub hZ dX5_step_83 ?_
              refine f_istore (L' := [_, _, _, _, _, _, _]) hZ dX5_step_84 rfl rfl ?_
              refine f_iload hZ dX5_step_86 rfl ?_
              refine f_ge (tgt := 93) hZ dX5_step_88 rfl (by first | omega | exact rg_of _) (fun h88 => ?_) (fun h88 => ?_)
              · refine f_aload_n hZ dX5_step_93 rfl ?_
                refine gX5_28 hZ dX5_step_94 ?_
                refine f_iload hZ dX5_step_97 rfl ?_
                refine f_iaload hZ dX5_step_99 (by first | rfl | exact hC.t1 | exact hC.t2 | exact hC.t3 | exact hC.t4 | exact hC.t5) (by first | rfl | exact hC.l1 | exact hC.l2 | exact hC.l3 | exact hC.l4 | exact hC.l5) (by first | omega | exact rg_of _) (by first | omega | exact rg_of _) (fun r99 => ?_)
                refine f_istore (L' := [_, _, _, _, _, _, _]) hZ dX5_step_100 rfl rfl ?_
                refine f_aload_n hZ dX5_step_102 rfl ?_
                refine gX5_28 hZ dX5_step_103 ?_
                refine f_iload_n hZ dX5_step_106 rfl ?_
                refine f_iconst hZ dX5_step_107 ?_
                refine f_isub hZ dX5_step_108 ?_
                refine f_iaload hZ dX5_step_109 (by first | rfl | exact hC.t1 | exact hC.t2 | exact hC.t3 | exact hC.t4 | exact hC.t5) (by first | rfl | exact hC.l1 | exact hC.l2 | exact hC.l3 | exact hC.l4 | exact hC.l5) (by first | omega | exact rg_of _) (by first | omega | exact rg_of _) (fun r109 => ?_)
                refine f_istore (L' := [_, _, _, _, _, _, _]) hZ dX5_step_110 rfl rfl ?_
                refine f_iload_n hZ dX5_step_112 rfl ?_
                refine f_tswIn (tgt := 197) hZ (-1) dX5_step_113 (by first | rfl | omega) (by omega) (by omega) (by omega) rfl rfl ?_
                refine f_aload_n hZ dX5_step_197 rfl ?_
                refine gX5_28 hZ dX5_step_198 ?_
                refine f_iload hZ dX5_step_201 rfl ?_
                refine f_iload hZ dX5_step_203 rfl ?_
                refine f_iload hZ dX5_step_205 rfl ?_
                refine f_iadd hZ dX5_step_207 ?_
                refine f_wrap ?_
                refine f_iastore hZ dX5_step_208 (by first | rfl | exact hC.t1 | exact hC.t2 | exact hC.t3 | exact hC.t4 | exact hC.t5) (by first | rfl | exact hC.l1 | exact hC.l2 | exact hC.l3 | exact hC.l4 | exact hC.l5) (by first | omega | exact rg_of _) (by first | omega | exact rg_of _) (by first | omega | exact rg_of _) ?_
                refine f_goto (tgt := 333) hZ dX5_step_209 rfl ?_
                refine f_iload hZ dX5_step_333 rfl ?_
                refine f_iconst hZ dX5_step_335 ?_
                refine f_iadd hZ dX5_step_336 ?_
                exact f_retI hZ hR dX5_step_337 rfl (by first | omega | exact rg_of _) (by first | exact stQ_same (stp_bin0 (by omega) (by omega)) | (refine stQ_up (t' := t - 1) ((stp_bin (by omega) (by omega)).trans ?_) (by omega); rw [bz1]))
              · refine f_iload_n hZ dX5_step_91 rfl ?_
                exact f_retI hZ hR dX5_step_92 rfl (by first | omega | exact rg_of _) (by first | exact stQ_same (stp_bin0 (by omega) (by omega)) | (refine stQ_up (t' := t - 1) ((stp_bin (by omega) (by omega)).trans ?_) (by omega); rw [bz1]))
            · exfalso; omega
          · exfalso; omega
      · exfalso; omega
    · exfalso; omega

/-! a stretch of code -/
def slc (C : Int → Int) (a : Int) : Nat → List Int
  | 0 => []
  | k + 1 => slc C a k ++ [C (a + k)]
theorem slc_len {C : Int → Int} {a : Int} : ∀ k : Nat, (slc C a k).length = k
  | 0 => rfl
  | k + 1 => by show (slc C a k ++ [C (a + k)]).length = k + 1; rw [List.length_append, slc_len k]; rfl
def rnZ (nm : Int → Int) (C : Int → Int) (a : Int) (k0 : Int → Int) (i : Int) : Int × (Int → Int) := fst nm (slc C a (i - a).toNat) (0, k0)
theorem rnZ_0 {nm C k0 : Int → Int} {a : Int} : rnZ nm C a k0 a = (0, k0) := by unfold rnZ; rw [show (a - a).toNat = 0 by omega]; rfl
theorem rnZ_s {nm C k0 : Int → Int} {a i : Int} (h : a ≤ i) : rnZ nm C a k0 (i + 1) = stp nm (C i) (rnZ nm C a k0 i) := by
  unfold rnZ
  rw [show (i + 1 - a).toNat = (i - a).toNat + 1 by omega]
  show fst nm (slc C a (i - a).toNat ++ [C (a + ((i - a).toNat : Int))]) (0, k0) = _
  rw [fst_app, show a + ((i - a).toNat : Int) = i by omega]; rfl
theorem fst_rg {nm : Int → Int} : ∀ (s : List Int) (q : Int × (Int → Int)), 0 ≤ q.1 ∧ q.1 ≤ 160 → 0 ≤ (fst nm s q).1 ∧ (fst nm s q).1 ≤ 160
  | [], q, h => h
  | c :: s, q, h => fst_rg s (stp nm c q) (stp_rg h)
theorem rnZ_rg {nm C k0 : Int → Int} {a i : Int} : 0 ≤ (rnZ nm C a k0 i).1 ∧ (rnZ nm C a k0 i).1 ≤ 160 := fst_rg _ _ (by show (0:Int) ≤ 0 ∧ (0:Int) ≤ 160; omega)
theorem stp_nm {nm nm' : Int → Int} (h : ∀ i, 0 ≤ i → i < 6 → nm i = nm' i) {c : Int} {q : Int × (Int → Int)} : stp nm c q = stp nm' c q := by
  unfold stp
  by_cases h1 : 10000 ≤ c ∧ c < 10006
  · rw [if_pos h1, if_pos h1, h (c - 10000) (by omega) (by omega)]
  · rw [if_neg h1, if_neg h1]
theorem fst_nm {nm nm' : Int → Int} (h : ∀ i, 0 ≤ i → i < 6 → nm i = nm' i) : ∀ (s : List Int) (q : Int × (Int → Int)), fst nm s q = fst nm' s q
  | [], q => rfl
  | c :: s, q => by show fst nm s (stp nm c q) = fst nm' s (stp nm' c q); rw [stp_nm h]; exact fst_nm h s _
theorem Sg_nm {s : List Int} {v : pV} (hs : Sg s v) (hl : s.length ≤ 160) {nm nm' : Int → Int} (h : ∀ i, 0 ≤ i → i < 6 → nm i = nm' i) : v nm = v nm' := by
  obtain ⟨k1, e1, v1, -⟩ := hs nm 0 (fun _ => 0) (by omega) (by omega)
  obtain ⟨k2, e2, v2, -⟩ := hs nm' 0 (fun _ => 0) (by omega) (by omega)
  rw [fst_nm h, e2] at e1
  rw [← v1, ← v2, (Prod.mk.inj e1).2]
/-- what bounds do -/
def bd (m x : Int) : Int := max 0 (min m x)
/-- text t's stretch for section s says V -/
def TXs (M : fM) (t s : Int) (v : pV) : Prop := (0 ≤ M (29 + t.toNat) s ∧ M (29 + t.toNat) s ≤ M (29 + t.toNat) (s + 1) ∧ M (29 + t.toNat) (s + 1) ≤ 160) ∧ Sg (slc (M (22 + t.toNat)) (M (29 + t.toNat) s) (M (29 + t.toNat) (s + 1) - M (29 + t.toNat) s).toNat) v
theorem lay22 {t : Int} (h : 0 ≤ t ∧ t < 6) : decide (22 + t.toNat < nC) = true ∧ lay (22 + t.toNat) = (0, 160, []) ∧ decide (29 + t.toNat < nC) = true ∧ lay (29 + t.toNat) = (0, 4, []) := by
  rcases (show t = 0 ∨ t = 1 ∨ t = 2 ∨ t = 3 ∨ t = 4 ∨ t = 5 by omega) with e | e | e | e | e | e <;> subst e <;> decide
set_option maxRecDepth 20000 in
set_option maxHeartbeats 4000000 in
theorem t_X5_bounded {X : fX} {M : fM} {d : Nat} {t s mb : Int} {v : pV} (ht : 0 ≤ t ∧ t < M 19 7) (h6 : M 19 7 ≤ 6) (hs : 0 ≤ s ∧ s ≤ 2) (hm0 : rg mb) (hT : TXs M t s v) : fC X (d + 1) mX5_bounded [.ref (xa X 19), .int (iv t), .int (iv s), .int (iv mb)] M (QI fun r M' => (∀ c, c ≠ 36 → M' c = M c) ∧ r = bd mb (v (M 35))) := by
  have hl22 := lay22 (t := t) (by omega)
  obtain ⟨hT1, hT3⟩ := hT
  have hr1 : ∀ f : Int → Int, ro M 36 f (29 + t.toNat) = M (29 + t.toNat) := fun f => ro_ne (by omega)
  have hr2 : ∀ f : Int → Int, ro M 36 f (22 + t.toNat) = M (22 + t.toNat) := fun f => ro_ne (by omega)
  have hr3 : ∀ f : Int → Int, ro M 36 f 36 = f := fun f => ro_eq
  have hr4 : ∀ f : Int → Int, ro M 36 f 35 = M 35 := fun f => ro_ne (by omega)
  have hr5 : ∀ f : Int → Int, ro M 36 f 19 = M 19 := fun f => ro_ne (by omega)
  refine fC.of (L := [_, _, _, _, _, _, _]) (by decide +kernel) rfl (Nat.le_of_ble_eq_true rfl) (fun Z hZ hR => ?_)
  have loop : ∀ (m : Nat) (x : Int) , M (29 + t.toNat) s ≤ x → x + m = M (29 + t.toNat) (s + 1) →  fG X mX5_bounded Z 44 [.ref (xa X 19), .int (iv t), .int (iv s), .int (iv mb), .ref (xa X (22 + t.toNat)), .int (iv (rnZ (M 35) (M (22 + t.toNat)) (M (29 + t.toNat) s) (M 36) x).1), .int (iv x)] [] (ro M 36 (rnZ (M 35) (M (22 + t.toNat)) (M (29 + t.toNat) s) (M 36) x).2) := by
    intro m
    induction m with
    | zero =>
      intro x  h0 hw 
      have hrn := rnZ_rg (nm := M 35) (C := M (22 + t.toNat)) (a := M (29 + t.toNat) s) (k0 := M 36) (i := x)
      have hfin : x = M (29 + t.toNat) (s + 1) → max 0 (min mb ((rnZ (M 35) (M (22 + t.toNat)) (M (29 + t.toNat) s) (M 36) x).2 0)) = bd mb (v (M 35)) := fun e => by
        obtain ⟨k1, e1, e2, -⟩ := hT3 (M 35) 0 (M 36) (by omega) (by rw [slc_len]; omega)
        unfold bd rnZ; rw [e, e1]; show max 0 (min mb (k1 0)) = _; rw [e2]
      refine f_iload hZ dX5_bounded_44 rfl ?_
      refine f_aload_n hZ dX5_bounded_46 rfl ?_
      refine gX5_20 hZ dX5_bounded_47 ?_
      refine f_iload_n hZ dX5_bounded_50 rfl ?_
      refine f_aaload hZ dX5_bounded_51 rfl rfl (by first | omega | (simp only [hr1, hr2]; omega)) (by first | omega | (simp only [hr1, hr2]; omega)) ?_
      refine f_iload_n hZ dX5_bounded_52 rfl ?_
      refine f_iconst hZ dX5_bounded_53 ?_
      refine f_iadd hZ dX5_bounded_54 ?_
      refine f_iaload hZ dX5_bounded_55 (by first | exact hl22.1 | exact hl22.2.2.1 | rfl) (by first | exact hl22.2.1 | exact hl22.2.2.2 | rfl) (by first | omega | (simp only [hr1, hr2]; omega)) (by first | omega | (simp only [hr1, hr2]; omega)) (fun r55 => ?_)
      try simp only [hr1, hr2, hr3, hr4, hr5] at r55 ⊢
      refine f_ige (tgt := 86) hZ dX5_bounded_56 rfl (by first | omega | (simp only [hr1, hr2]; omega)) (by first | omega | (simp only [hr1, hr2]; omega)) (fun h56 => ?_) (fun h56 => ?_)
      · refine f_iconst hZ dX5_bounded_86 ?_
        refine f_iload_n hZ dX5_bounded_87 rfl ?_
        refine f_aload_n hZ dX5_bounded_88 rfl ?_
        refine gX5_28 hZ dX5_bounded_89 ?_
        refine f_iconst hZ dX5_bounded_92 ?_
        refine f_iaload hZ dX5_bounded_93 (by first | exact hl22.1 | exact hl22.2.2.1 | rfl) (by first | exact hl22.2.1 | exact hl22.2.2.2 | rfl) (by first | omega | (simp only [hr1, hr2]; omega)) (by first | omega | (simp only [hr1, hr2]; omega)) (fun r93 => ?_)
        try simp only [hr1, hr2, hr3, hr4, hr5] at r93 ⊢
        refine f_min hZ dX5_bounded_94 wk_X5_55 (by first | omega | (simp only [hr1, hr2]; omega)) (by first | omega | (simp only [hr1, hr2]; omega)) (Nat.le_of_ble_eq_true rfl) ?_
        refine f_max hZ dX5_bounded_97 wk_X5_60 (by first | omega | (simp only [hr1, hr2]; omega)) (by first | omega | (simp only [hr1, hr2]; omega)) (Nat.le_of_ble_eq_true rfl) ?_
        exact f_retI hZ hR dX5_bounded_100 rfl (by first | omega | (simp only [hr1, hr2]; omega)) (by refine ⟨fun c hc => ro_ne hc, ?_⟩; rw [hfin (by omega)])
      · exfalso; omega
    | succ m ih =>
      intro x  h0 hw 
      have hrn := rnZ_rg (nm := M 35) (C := M (22 + t.toNat)) (a := M (29 + t.toNat) s) (k0 := M 36) (i := x)
      have hfin : x = M (29 + t.toNat) (s + 1) → max 0 (min mb ((rnZ (M 35) (M (22 + t.toNat)) (M (29 + t.toNat) s) (M 36) x).2 0)) = bd mb (v (M 35)) := fun e => by
        obtain ⟨k1, e1, e2, -⟩ := hT3 (M 35) 0 (M 36) (by omega) (by rw [slc_len]; omega)
        unfold bd rnZ; rw [e, e1]; show max 0 (min mb (k1 0)) = _; rw [e2]
      refine f_iload hZ dX5_bounded_44 rfl ?_
      refine f_aload_n hZ dX5_bounded_46 rfl ?_
      refine gX5_20 hZ dX5_bounded_47 ?_
      refine f_iload_n hZ dX5_bounded_50 rfl ?_
      refine f_aaload hZ dX5_bounded_51 rfl rfl (by first | omega | (simp only [hr1, hr2]; omega)) (by first | omega | (simp only [hr1, hr2]; omega)) ?_
      refine f_iload_n hZ dX5_bounded_52 rfl ?_
      refine f_iconst hZ dX5_bounded_53 ?_
      refine f_iadd hZ dX5_bounded_54 ?_
      refine f_iaload hZ dX5_bounded_55 (by first | exact hl22.1 | exact hl22.2.2.1 | rfl) (by first | exact hl22.2.1 | exact hl22.2.2.2 | rfl) (by first | omega | (simp only [hr1, hr2]; omega)) (by first | omega | (simp only [hr1, hr2]; omega)) (fun r55 => ?_)
      try simp only [hr1, hr2, hr3, hr4, hr5] at r55 ⊢
      refine f_ige (tgt := 86) hZ dX5_bounded_56 rfl (by first | omega | (simp only [hr1, hr2]; omega)) (by first | omega | (simp only [hr1, hr2]; omega)) (fun h56 => ?_) (fun h56 => ?_)
      · exfalso; omega
      · refine f_iload hZ dX5_bounded_59 rfl ?_
        refine f_sipush hZ dX5_bounded_61 ?_
        refine f_ige (tgt := 86) hZ dX5_bounded_64 rfl (by first | omega | (simp only [hr1, hr2]; omega)) (by first | omega | (simp only [hr1, hr2]; omega)) (fun h64 => ?_) (fun h64 => ?_)
        · exfalso; omega
        · refine f_aload_n hZ dX5_bounded_67 rfl ?_
          refine f_aload hZ dX5_bounded_68 rfl ?_
          refine f_iload hZ dX5_bounded_70 rfl ?_
          refine f_iaload hZ dX5_bounded_72 (by first | exact hl22.1 | exact hl22.2.2.1 | rfl) (by first | exact hl22.2.1 | exact hl22.2.2.2 | rfl) (by first | omega | (simp only [hr1, hr2]; omega)) (by first | omega | (simp only [hr1, hr2]; omega)) (fun r72 => ?_)
          try simp only [hr1, hr2, hr3, hr4, hr5] at r72 ⊢
          refine f_iload hZ dX5_bounded_73 rfl ?_
          refine vX5_51 hZ dX5_bounded_75 (t_X5_step r72 (by omega)) (fun a75 M75 r75 h75 => ?_)
          obtain ⟨h75, e75⟩ := h75
          simp only [hr2, hr3, hr4, ro_ro] at h75 e75
          subst h75
          refine f_nm (fun u5 eu5 => ?_)
          refine f_istore (L' := [_, _, _, _, _, _, _]) hZ dX5_bounded_78 rfl rfl ?_
          refine f_iinc (L' := [_, _, _, _, _, _, _]) hZ dX5_bounded_80 rfl rfl ?_
          refine f_goto (tgt := 44) hZ dX5_bounded_83 rfl ?_
          have hh := ih (x + 1) (by omega) (by omega)
          rw [rnZ_s h0] at hh
          rw [eu5, e75]
          exact hh
  refine f_iload_n hZ dX5_bounded_0 rfl ?_
  refine f_lt (tgt := 21) hZ dX5_bounded_1 rfl (by omega) (fun h1 => ?_) (fun h1 => ?_)
  · exfalso; omega
  · refine f_iload_n hZ dX5_bounded_4 rfl ?_
    refine f_aload_n hZ dX5_bounded_5 rfl ?_
    refine gX5_44 hZ dX5_bounded_6 (fun r6 => ?_)
    refine f_ige (tgt := 21) hZ dX5_bounded_9 rfl (by omega) (by omega) (fun h9 => ?_) (fun h9 => ?_)
    · exfalso; omega
    · refine f_iload_n hZ dX5_bounded_12 rfl ?_
      refine f_lt (tgt := 21) hZ dX5_bounded_13 rfl (by omega) (fun h13 => ?_) (fun h13 => ?_)
      · exfalso; omega
      · refine f_iload_n hZ dX5_bounded_16 rfl ?_
        refine f_iconst hZ dX5_bounded_17 ?_
        refine f_ilt (tgt := 23) hZ dX5_bounded_18 rfl (by omega) (by omega) (fun h18 => ?_) (fun h18 => ?_)
        · refine f_aload_n hZ dX5_bounded_23 rfl ?_
          refine gX5_17 hZ dX5_bounded_24 ?_
          refine f_iload_n hZ dX5_bounded_27 rfl ?_
          refine f_aaload hZ dX5_bounded_28 rfl rfl (by omega) (by omega) ?_
          refine f_astore (L' := [_, _, _, _, _, _, _]) hZ dX5_bounded_29 rfl rfl ?_
          refine f_iconst hZ dX5_bounded_31 ?_
          refine f_istore (L' := [_, _, _, _, _, _, _]) hZ dX5_bounded_32 rfl rfl ?_
          refine f_aload_n hZ dX5_bounded_34 rfl ?_
          refine gX5_20 hZ dX5_bounded_35 ?_
          refine f_iload_n hZ dX5_bounded_38 rfl ?_
          refine f_aaload hZ dX5_bounded_39 rfl rfl (by omega) (by omega) ?_
          refine f_iload_n hZ dX5_bounded_40 rfl ?_
          refine f_iaload hZ dX5_bounded_41 (by first | exact hl22.1 | exact hl22.2.2.1 | rfl) (by first | exact hl22.2.1 | exact hl22.2.2.2 | rfl) (by omega) (by omega) (fun r41 => ?_)
          refine f_istore (L' := [_, _, _, _, _, _, _]) hZ dX5_bounded_42 rfl rfl ?_
          have hh := loop (M (29 + t.toNat) (s + 1) - M (29 + t.toNat) s).toNat (M (29 + t.toNat) s) (by omega) (by omega)
          rw [rnZ_0] at hh
          rw [show ro M 36 ((0 : Int), M 36).2 = M from ro_id] at hh
          exact hh
        · exfalso; omega

