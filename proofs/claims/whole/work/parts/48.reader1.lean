/-! the class's reader: bytes, words, tokens -/
theorem up_up {M : fM} {c : Nat} {i v w : Int} : up (up M c i v) c i w = up M c i w := by
  funext c' i'; unfold up
  by_cases h : c' = c ∧ i' = i
  · rw [if_pos h, if_pos h]
  · rw [if_neg h, if_neg h, if_neg h]
def failM (M : fM) : fM := up (if M 37 8 = -1 then up M 37 8 (M 37 4) else M) 37 6 259
/-- the fields of the reader -/
abbrev rFld (M K : fM) : Prop := (∀ c, c ≠ 37 → K c = M c) ∧ K 37 1 = M 37 1 ∧ K 37 2 = M 37 2 ∧ K 37 3 = M 37 3
theorem lay22c {c : Int} (h : 22 ≤ c ∧ c < 28) : decide (c.toNat < nC) = true ∧ lay c.toNat = (0, 160, []) := by
  have := lay22 (t := c - 22) (by omega)
  rw [show 22 + (c - 22).toNat = c.toNat by omega] at this
  exact ⟨this.1, this.2.1⟩
set_option maxRecDepth 20000 in
set_option maxHeartbeats 4000000 in
theorem t_X2_isLetter {X : fX} {M : fM} {d : Nat} {b : Int} (hb : rg b) : fC X d mX2_isLetter [.int (iv b)] M (QI fun r M' => M' = M ∧ bz r (bLt b)) := by
  refine fC.of (L := [_]) (by decide +kernel) rfl (Nat.le_of_ble_eq_true rfl) (fun Z hZ hR => ?_)
  refine f_iload_n hZ dX2_isLetter_0 rfl ?_
  refine f_bipush hZ dX2_isLetter_1 ?_
  refine f_ilt (tgt := 16) hZ dX2_isLetter_3 rfl (by omega) (by omega) (fun h3 => ?_) (fun h3 => ?_)
  · refine f_iconst hZ dX2_isLetter_16 ?_
    exact f_retZ hZ hR dX2_isLetter_17 rfl (by omega) (by exact ⟨rfl, by first | exact Or.inl ⟨rfl, by omega⟩ | exact Or.inr ⟨rfl, by omega⟩⟩)
  · refine f_iload_n hZ dX2_isLetter_6 rfl ?_
    refine f_bipush hZ dX2_isLetter_7 ?_
    refine f_igt (tgt := 16) hZ dX2_isLetter_9 rfl (by omega) (by omega) (fun h9 => ?_) (fun h9 => ?_)
    · refine f_iconst hZ dX2_isLetter_16 ?_
      exact f_retZ hZ hR dX2_isLetter_17 rfl (by omega) (by exact ⟨rfl, by first | exact Or.inl ⟨rfl, by omega⟩ | exact Or.inr ⟨rfl, by omega⟩⟩)
    · refine f_iconst hZ dX2_isLetter_12 ?_
      refine f_goto (tgt := 17) hZ dX2_isLetter_13 rfl ?_
      exact f_retZ hZ hR dX2_isLetter_17 rfl (by omega) (by exact ⟨rfl, by first | exact Or.inl ⟨rfl, by omega⟩ | exact Or.inr ⟨rfl, by omega⟩⟩)

set_option maxRecDepth 20000 in
set_option maxHeartbeats 4000000 in
theorem t_X2_isDigit {X : fX} {M : fM} {d : Nat} {b : Int} (hb : rg b) : fC X d mX2_isDigit [.int (iv b)] M (QI fun r M' => M' = M ∧ bz r (bDg b)) := by
  refine fC.of (L := [_]) (by decide +kernel) rfl (Nat.le_of_ble_eq_true rfl) (fun Z hZ hR => ?_)
  refine f_iload_n hZ dX2_isDigit_0 rfl ?_
  refine f_bipush hZ dX2_isDigit_1 ?_
  refine f_ilt (tgt := 16) hZ dX2_isDigit_3 rfl (by omega) (by omega) (fun h3 => ?_) (fun h3 => ?_)
  · refine f_iconst hZ dX2_isDigit_16 ?_
    exact f_retZ hZ hR dX2_isDigit_17 rfl (by omega) (by exact ⟨rfl, by first | exact Or.inl ⟨rfl, by omega⟩ | exact Or.inr ⟨rfl, by omega⟩⟩)
  · refine f_iload_n hZ dX2_isDigit_6 rfl ?_
    refine f_bipush hZ dX2_isDigit_7 ?_
    refine f_igt (tgt := 16) hZ dX2_isDigit_9 rfl (by omega) (by omega) (fun h9 => ?_) (fun h9 => ?_)
    · refine f_iconst hZ dX2_isDigit_16 ?_
      exact f_retZ hZ hR dX2_isDigit_17 rfl (by omega) (by exact ⟨rfl, by first | exact Or.inl ⟨rfl, by omega⟩ | exact Or.inr ⟨rfl, by omega⟩⟩)
    · refine f_iconst hZ dX2_isDigit_12 ?_
      refine f_goto (tgt := 17) hZ dX2_isDigit_13 rfl ?_
      exact f_retZ hZ hR dX2_isDigit_17 rfl (by omega) (by exact ⟨rfl, by first | exact Or.inl ⟨rfl, by omega⟩ | exact Or.inr ⟨rfl, by omega⟩⟩)

set_option maxRecDepth 20000 in
set_option maxHeartbeats 4000000 in
theorem t_X2_isSign {X : fX} {M : fM} {d : Nat} {b : Int} (hb : rg b) : fC X d mX2_isSign [.int (iv b)] M (QI fun r M' => M' = M ∧ bz r (bSg b)) := by
  refine fC.of (L := [_]) (by decide +kernel) rfl (Nat.le_of_ble_eq_true rfl) (fun Z hZ hR => ?_)
  refine f_iload_n hZ dX2_isSign_0 rfl ?_
  refine f_bipush hZ dX2_isSign_1 ?_
  refine f_ieq (tgt := 48) hZ dX2_isSign_3 rfl (by omega) (by omega) (fun h3 => ?_) (fun h3 => ?_)
  · refine f_iconst hZ dX2_isSign_48 ?_
    refine f_goto (tgt := 53) hZ dX2_isSign_49 rfl ?_
    exact f_retZ hZ hR dX2_isSign_53 rfl (by omega) (by exact ⟨rfl, by first | exact Or.inl ⟨rfl, by omega⟩ | exact Or.inr ⟨rfl, by omega⟩⟩)
  · refine f_iload_n hZ dX2_isSign_6 rfl ?_
    refine f_bipush hZ dX2_isSign_7 ?_
    refine f_ieq (tgt := 48) hZ dX2_isSign_9 rfl (by omega) (by omega) (fun h9 => ?_) (fun h9 => ?_)
    · refine f_iconst hZ dX2_isSign_48 ?_
      refine f_goto (tgt := 53) hZ dX2_isSign_49 rfl ?_
      exact f_retZ hZ hR dX2_isSign_53 rfl (by omega) (by exact ⟨rfl, by first | exact Or.inl ⟨rfl, by omega⟩ | exact Or.inr ⟨rfl, by omega⟩⟩)
    · refine f_iload_n hZ dX2_isSign_12 rfl ?_
      refine f_bipush hZ dX2_isSign_13 ?_
      refine f_ieq (tgt := 48) hZ dX2_isSign_15 rfl (by omega) (by omega) (fun h15 => ?_) (fun h15 => ?_)
      · refine f_iconst hZ dX2_isSign_48 ?_
        refine f_goto (tgt := 53) hZ dX2_isSign_49 rfl ?_
        exact f_retZ hZ hR dX2_isSign_53 rfl (by omega) (by exact ⟨rfl, by first | exact Or.inl ⟨rfl, by omega⟩ | exact Or.inr ⟨rfl, by omega⟩⟩)
      · refine f_iload_n hZ dX2_isSign_18 rfl ?_
        refine f_bipush hZ dX2_isSign_19 ?_
        refine f_ieq (tgt := 48) hZ dX2_isSign_21 rfl (by omega) (by omega) (fun h21 => ?_) (fun h21 => ?_)
        · refine f_iconst hZ dX2_isSign_48 ?_
          refine f_goto (tgt := 53) hZ dX2_isSign_49 rfl ?_
          exact f_retZ hZ hR dX2_isSign_53 rfl (by omega) (by exact ⟨rfl, by first | exact Or.inl ⟨rfl, by omega⟩ | exact Or.inr ⟨rfl, by omega⟩⟩)
        · refine f_iload_n hZ dX2_isSign_24 rfl ?_
          refine f_bipush hZ dX2_isSign_25 ?_
          refine f_ieq (tgt := 48) hZ dX2_isSign_27 rfl (by omega) (by omega) (fun h27 => ?_) (fun h27 => ?_)
          · refine f_iconst hZ dX2_isSign_48 ?_
            refine f_goto (tgt := 53) hZ dX2_isSign_49 rfl ?_
            exact f_retZ hZ hR dX2_isSign_53 rfl (by omega) (by exact ⟨rfl, by first | exact Or.inl ⟨rfl, by omega⟩ | exact Or.inr ⟨rfl, by omega⟩⟩)
          · refine f_iload_n hZ dX2_isSign_30 rfl ?_
            refine f_bipush hZ dX2_isSign_31 ?_
            refine f_ieq (tgt := 48) hZ dX2_isSign_33 rfl (by omega) (by omega) (fun h33 => ?_) (fun h33 => ?_)
            · refine f_iconst hZ dX2_isSign_48 ?_
              refine f_goto (tgt := 53) hZ dX2_isSign_49 rfl ?_
              exact f_retZ hZ hR dX2_isSign_53 rfl (by omega) (by exact ⟨rfl, by first | exact Or.inl ⟨rfl, by omega⟩ | exact Or.inr ⟨rfl, by omega⟩⟩)
            · refine f_iload_n hZ dX2_isSign_36 rfl ?_
              refine f_bipush hZ dX2_isSign_37 ?_
              refine f_ieq (tgt := 48) hZ dX2_isSign_39 rfl (by omega) (by omega) (fun h39 => ?_) (fun h39 => ?_)
              · refine f_iconst hZ dX2_isSign_48 ?_
                refine f_goto (tgt := 53) hZ dX2_isSign_49 rfl ?_
                exact f_retZ hZ hR dX2_isSign_53 rfl (by omega) (by exact ⟨rfl, by first | exact Or.inl ⟨rfl, by omega⟩ | exact Or.inr ⟨rfl, by omega⟩⟩)
              · refine f_iload_n hZ dX2_isSign_42 rfl ?_
                refine f_bipush hZ dX2_isSign_43 ?_
                refine f_ine (tgt := 52) hZ dX2_isSign_45 rfl (by omega) (by omega) (fun h45 => ?_) (fun h45 => ?_)
                · refine f_iconst hZ dX2_isSign_52 ?_
                  exact f_retZ hZ hR dX2_isSign_53 rfl (by omega) (by exact ⟨rfl, by first | exact Or.inl ⟨rfl, by omega⟩ | exact Or.inr ⟨rfl, by omega⟩⟩)
                · refine f_iconst hZ dX2_isSign_48 ?_
                  refine f_goto (tgt := 53) hZ dX2_isSign_49 rfl ?_
                  exact f_retZ hZ hR dX2_isSign_53 rfl (by omega) (by exact ⟨rfl, by first | exact Or.inl ⟨rfl, by omega⟩ | exact Or.inr ⟨rfl, by omega⟩⟩)

set_option maxRecDepth 20000 in
set_option maxHeartbeats 4000000 in
theorem t_X2_fail {X : fX} {M : fM} {d : Nat} : fC X d mX2_fail [.ref (xa X 37)] M (QV fun M' => M' = failM M) := by
  refine fC.of (L := [_]) (by decide +kernel) rfl (Nat.le_of_ble_eq_true rfl) (fun Z hZ hR => ?_)
  refine f_aload_n hZ dX2_fail_0 rfl ?_
  refine gX2_30 hZ dX2_fail_1 (fun r1 => ?_)
  try simp only [up_app] at r1 ⊢
  refine f_iconst hZ dX2_fail_4 ?_
  refine f_ine (tgt := 16) hZ dX2_fail_5 rfl (by omega) (by omega) (fun h5 => ?_) (fun h5 => ?_)
  · refine f_aload_n hZ dX2_fail_16 rfl ?_
    refine f_sipush hZ dX2_fail_17 ?_
    refine pX2_24 hZ dX2_fail_20 (by omega) ?_
    exact f_retV hZ hR dX2_fail_23 rfl (by unfold failM; first | rw [if_pos (by omega)] | rw [if_neg (by omega)])
  · refine f_aload_n hZ dX2_fail_8 rfl ?_
    refine f_aload_n hZ dX2_fail_9 rfl ?_
    refine gX2_18 hZ dX2_fail_10 (fun r10 => ?_)
    try simp only [up_app] at r10 ⊢
    refine pX2_30 hZ dX2_fail_13 (by omega) ?_
    refine f_aload_n hZ dX2_fail_16 rfl ?_
    refine f_sipush hZ dX2_fail_17 ?_
    refine pX2_24 hZ dX2_fail_20 (by omega) ?_
    exact f_retV hZ hR dX2_fail_23 rfl (by unfold failM; first | rw [if_pos (by omega)] | rw [if_neg (by omega)])

set_option maxRecDepth 20000 in
set_option maxHeartbeats 4000000 in
theorem t_X2_emit {X : fX} {M : fM} {d : Nat} {v : Int} (hv : rg v) (hc : 22 ≤ M 37 1 ∧ M 37 1 < 28) (hu : 0 ≤ M 37 3) : fC X d mX2_emit [.ref (xa X 37), .int (iv v)] M (QV fun M' => (160 ≤ M 37 3 ∧ M' = M) ∨ (M 37 3 < 160 ∧ M' = up (up M (M 37 1).toNat (M 37 3) v) 37 3 (M 37 3 + 1))) := by
  refine fC.of (L := [_, _]) (by decide +kernel) rfl (Nat.le_of_ble_eq_true rfl) (fun Z hZ hR => ?_)
  have hl22 := lay22c hc
  have h37 : ∀ i v, up M (M 37 1).toNat i v 37 = M 37 := fun i v => up_ne (by omega)
  refine f_aload_n hZ dX2_emit_0 rfl ?_
  refine gX2_15 hZ dX2_emit_1 (fun r1 => ?_)
  try simp only [h37] at r1 ⊢
  refine f_aload_n hZ dX2_emit_4 rfl ?_
  refine gX2_37 hZ dX2_emit_5 ?_
  refine f_alen hZ dX2_emit_8 (by first | exact hl22.1 | rfl) (by first | exact hl22.2 | rfl) ?_
  refine f_ige (tgt := 32) hZ dX2_emit_9 rfl (by omega) (by omega) (fun h9 => ?_) (fun h9 => ?_)
  · exact f_retV hZ hR dX2_emit_32 rfl (by first | exact Or.inl ⟨by omega, rfl⟩ | exact Or.inr ⟨by omega, rfl⟩)
  · refine f_aload_n hZ dX2_emit_12 rfl ?_
    refine gX2_37 hZ dX2_emit_13 ?_
    refine f_aload_n hZ dX2_emit_16 rfl ?_
    refine gX2_15 hZ dX2_emit_17 (fun r17 => ?_)
    try simp only [h37] at r17 ⊢
    refine f_iload_n hZ dX2_emit_20 rfl ?_
    refine f_iastore hZ dX2_emit_21 (by first | exact hl22.1 | rfl) (by first | exact hl22.2 | rfl) (by omega) (by omega) (by omega) ?_
    refine f_aload_n hZ dX2_emit_22 rfl ?_
    refine f_dup hZ dX2_emit_23 rfl ?_
    refine gX2_15 hZ dX2_emit_24 (fun r24 => ?_)
    try simp only [h37] at r24 ⊢
    refine f_iconst hZ dX2_emit_27 ?_
    refine f_iadd hZ dX2_emit_28 ?_
    refine pX2_15 hZ dX2_emit_29 (by omega) ?_
    exact f_retV hZ hR dX2_emit_32 rfl (by first | exact Or.inl ⟨by omega, rfl⟩ | exact Or.inr ⟨by omega, rfl⟩)

set_option maxRecDepth 20000 in
set_option maxHeartbeats 4000000 in
theorem t_X2_behind_32 {X : fX} {M : fM} {d : Nat} {f : Int} (hf : 0 ≤ f ∧ f ≤ M 37 2) (hn : M 37 2 ≤ 160) : fC X (d + 1) mX2_behind [.ref (xa X 37), .int (iv f), .int (iv 32)] M (QI fun r M' => M' = M ∧ r = bhd 0 (M 20) (M 37 2) f) := by
  refine fC.of (L := [_, _, _, _, _, _]) (by decide +kernel) rfl (Nat.le_of_ble_eq_true rfl) (fun Z hZ hR => ?_)
  have loop : ∀ (m : Nat) (i : Int) , f ≤ i → i + m = M 37 2 → (bhd 0 (M 20) (M 37 2) f = bhd 0 (M 20) (M 37 2) i) → fG X mX2_behind Z 2 [.ref (xa X 37), .int (iv f), .int (iv 32), .int (iv i), .null, .null] [] (M) := by
    intro m
    induction m with
    | zero =>
      intro i  h0 hw hinv
      refine f_iload_n hZ dX2_behind_2 rfl ?_
      refine f_aload_n hZ dX2_behind_3 rfl ?_
      refine gX2_9 hZ dX2_behind_4 (fun r4 => ?_)
      refine f_ige (tgt := 80) hZ dX2_behind_7 rfl (by omega) (by omega) (fun h7 => ?_) (fun h7 => ?_)
      · refine f_aload_n hZ dX2_behind_80 rfl ?_
        refine gX2_9 hZ dX2_behind_81 (fun r81 => ?_)
        exact f_retI hZ hR dX2_behind_84 rfl (by omega) (by refine ⟨rfl, ?_⟩; rw [hinv]; first | (rw [bhd_end (by omega)]; omega) | (rw [bhd_stop (fun z => by have z : bSp (M 20 i) := z; omega)]))
      · exfalso; omega
    | succ m ih =>
      intro i  h0 hw hinv
      refine f_iload_n hZ dX2_behind_2 rfl ?_
      refine f_aload_n hZ dX2_behind_3 rfl ?_
      refine gX2_9 hZ dX2_behind_4 (fun r4 => ?_)
      refine f_ige (tgt := 80) hZ dX2_behind_7 rfl (by omega) (by omega) (fun h7 => ?_) (fun h7 => ?_)
      · exfalso; omega
      · refine f_aload_n hZ dX2_behind_10 rfl ?_
        refine gX2_33 hZ dX2_behind_11 ?_
        refine f_iload_n hZ dX2_behind_14 rfl ?_
        refine f_iaload hZ dX2_behind_15 (by first | rfl | exact hC.t1 | exact hC.t2 | exact hC.t3 | exact hC.t4 | exact hC.t5) (by first | rfl | exact hC.l1 | exact hC.l2 | exact hC.l3 | exact hC.l4 | exact hC.l5) (by omega) (by omega) (fun r15 => ?_)
        refine f_istore (L' := [_, _, _, _, _, _]) hZ dX2_behind_16 rfl rfl ?_
        refine f_iload_n hZ dX2_behind_18 rfl ?_
        refine f_bipush hZ dX2_behind_19 ?_
        refine f_ine (tgt := 32) hZ dX2_behind_21 rfl (by omega) (by omega) (fun h21 => ?_) (fun h21 => ?_)
        · refine f_iload_n hZ dX2_behind_32 rfl ?_
          refine f_bipush hZ dX2_behind_33 ?_
          refine f_ine (tgt := 46) hZ dX2_behind_35 rfl (by omega) (by omega) (fun h35 => ?_) (fun h35 => ?_)
          · refine f_iload hZ dX2_behind_46 rfl ?_
            refine f_bipush hZ dX2_behind_48 ?_
            refine f_ieq (tgt := 60) hZ dX2_behind_50 rfl (by omega) (by omega) (fun h50 => ?_) (fun h50 => ?_)
            · refine f_iconst hZ dX2_behind_60 ?_
              refine f_goto (tgt := 65) hZ dX2_behind_61 rfl ?_
              refine f_istore (L' := [_, _, _, _, _, _]) hZ dX2_behind_65 rfl rfl ?_
              refine f_iload hZ dX2_behind_67 rfl ?_
              refine f_ne (tgt := 74) hZ dX2_behind_69 rfl (by omega) (fun h69 => ?_) (fun h69 => ?_)
              · refine f_iinc (L' := [_, _, _, _, _, _]) hZ dX2_behind_74 rfl rfl ?_
                refine f_goto (tgt := 2) hZ dX2_behind_77 rfl ?_
                refine f_forget (L' := [_, _, _, _, .null, .null]) ⟨Or.inl rfl, Or.inl rfl, Or.inl rfl, Or.inl rfl, Or.inr rfl, Or.inr rfl, trivial⟩ ?_
                exact ih (i + 1) (by omega) (by omega) (by rw [hinv]; exact bhd_step (by omega) (show bSp (M 20 i) by omega))
              · exfalso; omega
            · refine f_iload hZ dX2_behind_53 rfl ?_
              refine f_bipush hZ dX2_behind_55 ?_
              refine f_ine (tgt := 64) hZ dX2_behind_57 rfl (by omega) (by omega) (fun h57 => ?_) (fun h57 => ?_)
              · refine f_iconst hZ dX2_behind_64 ?_
                refine f_istore (L' := [_, _, _, _, _, _]) hZ dX2_behind_65 rfl rfl ?_
                refine f_iload hZ dX2_behind_67 rfl ?_
                refine f_ne (tgt := 74) hZ dX2_behind_69 rfl (by omega) (fun h69 => ?_) (fun h69 => ?_)
                · exfalso; omega
                · refine f_iload_n hZ dX2_behind_72 rfl ?_
                  exact f_retI hZ hR dX2_behind_73 rfl (by omega) (by refine ⟨rfl, ?_⟩; rw [hinv]; first | (rw [bhd_end (by omega)]; omega) | (rw [bhd_stop (fun z => by have z : bSp (M 20 i) := z; omega)]))
              · refine f_iconst hZ dX2_behind_60 ?_
                refine f_goto (tgt := 65) hZ dX2_behind_61 rfl ?_
                refine f_istore (L' := [_, _, _, _, _, _]) hZ dX2_behind_65 rfl rfl ?_
                refine f_iload hZ dX2_behind_67 rfl ?_
                refine f_ne (tgt := 74) hZ dX2_behind_69 rfl (by omega) (fun h69 => ?_) (fun h69 => ?_)
                · refine f_iinc (L' := [_, _, _, _, _, _]) hZ dX2_behind_74 rfl rfl ?_
                  refine f_goto (tgt := 2) hZ dX2_behind_77 rfl ?_
                  refine f_forget (L' := [_, _, _, _, .null, .null]) ⟨Or.inl rfl, Or.inl rfl, Or.inl rfl, Or.inl rfl, Or.inr rfl, Or.inr rfl, trivial⟩ ?_
                  exact ih (i + 1) (by omega) (by omega) (by rw [hinv]; exact bhd_step (by omega) (show bSp (M 20 i) by omega))
                · exfalso; omega
          · exfalso; omega
        · exfalso; omega
  refine f_iload_n hZ dX2_behind_0 rfl ?_
  refine f_istore_n (L' := [_, _, _, _, _, _]) hZ dX2_behind_1 rfl rfl ?_
  exact loop (M 37 2 - f).toNat f (by omega) (by omega) rfl

set_option maxRecDepth 20000 in
set_option maxHeartbeats 4000000 in
theorem t_X2_behind_97 {X : fX} {M : fM} {d : Nat} {f : Int} (hf : 0 ≤ f ∧ f ≤ M 37 2) (hn : M 37 2 ≤ 160) : fC X (d + 1) mX2_behind [.ref (xa X 37), .int (iv f), .int (iv 97)] M (QI fun r M' => M' = M ∧ r = bhd 1 (M 20) (M 37 2) f) := by
  refine fC.of (L := [_, _, _, _, _, _]) (by decide +kernel) rfl (Nat.le_of_ble_eq_true rfl) (fun Z hZ hR => ?_)
  have loop : ∀ (m : Nat) (i : Int) , f ≤ i → i + m = M 37 2 → (bhd 1 (M 20) (M 37 2) f = bhd 1 (M 20) (M 37 2) i) → fG X mX2_behind Z 2 [.ref (xa X 37), .int (iv f), .int (iv 97), .int (iv i), .null, .null] [] (M) := by
    intro m
    induction m with
    | zero =>
      intro i  h0 hw hinv
      refine f_iload_n hZ dX2_behind_2 rfl ?_
      refine f_aload_n hZ dX2_behind_3 rfl ?_
      refine gX2_9 hZ dX2_behind_4 (fun r4 => ?_)
      refine f_ige (tgt := 80) hZ dX2_behind_7 rfl (by omega) (by omega) (fun h7 => ?_) (fun h7 => ?_)
      · refine f_aload_n hZ dX2_behind_80 rfl ?_
        refine gX2_9 hZ dX2_behind_81 (fun r81 => ?_)
        exact f_retI hZ hR dX2_behind_84 rfl (by omega) (by refine ⟨rfl, ?_⟩; rw [hinv]; first | (rw [bhd_end (by omega)]; omega) | (rw [bhd_stop (fun z => by have z : bLt (M 20 i) := z; omega)]))
      · exfalso; omega
    | succ m ih =>
      intro i  h0 hw hinv
      refine f_iload_n hZ dX2_behind_2 rfl ?_
      refine f_aload_n hZ dX2_behind_3 rfl ?_
      refine gX2_9 hZ dX2_behind_4 (fun r4 => ?_)
      refine f_ige (tgt := 80) hZ dX2_behind_7 rfl (by omega) (by omega) (fun h7 => ?_) (fun h7 => ?_)
      · exfalso; omega
      · refine f_aload_n hZ dX2_behind_10 rfl ?_
        refine gX2_33 hZ dX2_behind_11 ?_
        refine f_iload_n hZ dX2_behind_14 rfl ?_
        refine f_iaload hZ dX2_behind_15 (by first | rfl | exact hC.t1 | exact hC.t2 | exact hC.t3 | exact hC.t4 | exact hC.t5) (by first | rfl | exact hC.l1 | exact hC.l2 | exact hC.l3 | exact hC.l4 | exact hC.l5) (by omega) (by omega) (fun r15 => ?_)
        refine f_istore (L' := [_, _, _, _, _, _]) hZ dX2_behind_16 rfl rfl ?_
        refine f_iload_n hZ dX2_behind_18 rfl ?_
        refine f_bipush hZ dX2_behind_19 ?_
        refine f_ine (tgt := 32) hZ dX2_behind_21 rfl (by omega) (by omega) (fun h21 => ?_) (fun h21 => ?_)
        · exfalso; omega
        · refine f_iload hZ dX2_behind_24 rfl ?_
          refine sX2_85 hZ dX2_behind_26 (t_X2_isLetter (by omega)) (fun a26 M26 r26 h26 => ?_)
          obtain ⟨e26, h26⟩ := h26
          replace e26 := e26.symm
          subst e26
          refine f_goto (tgt := 65) hZ dX2_behind_29 rfl ?_
          refine f_istore (L' := [_, _, _, _, _, _]) hZ dX2_behind_65 rfl rfl ?_
          refine f_iload hZ dX2_behind_67 rfl ?_
          refine f_ne (tgt := 74) hZ dX2_behind_69 rfl (by omega) (fun h69 => ?_) (fun h69 => ?_)
          · refine f_iinc (L' := [_, _, _, _, _, _]) hZ dX2_behind_74 rfl rfl ?_
            refine f_goto (tgt := 2) hZ dX2_behind_77 rfl ?_
            refine f_forget (L' := [_, _, _, _, .null, .null]) ⟨Or.inl rfl, Or.inl rfl, Or.inl rfl, Or.inl rfl, Or.inr rfl, Or.inr rfl, trivial⟩ ?_
            exact ih (i + 1) (by omega) (by omega) (by rw [hinv]; exact bhd_step (by omega) (show bLt (M 20 i) by omega))
          · refine f_iload_n hZ dX2_behind_72 rfl ?_
            exact f_retI hZ hR dX2_behind_73 rfl (by omega) (by refine ⟨rfl, ?_⟩; rw [hinv]; first | (rw [bhd_end (by omega)]; omega) | (rw [bhd_stop (fun z => by have z : bLt (M 20 i) := z; omega)]))
  refine f_iload_n hZ dX2_behind_0 rfl ?_
  refine f_istore_n (L' := [_, _, _, _, _, _]) hZ dX2_behind_1 rfl rfl ?_
  exact loop (M 37 2 - f).toNat f (by omega) (by omega) rfl

set_option maxRecDepth 20000 in
set_option maxHeartbeats 4000000 in
theorem t_X2_behind_48 {X : fX} {M : fM} {d : Nat} {f : Int} (hf : 0 ≤ f ∧ f ≤ M 37 2) (hn : M 37 2 ≤ 160) : fC X (d + 1) mX2_behind [.ref (xa X 37), .int (iv f), .int (iv 48)] M (QI fun r M' => M' = M ∧ r = bhd 2 (M 20) (M 37 2) f) := by
  refine fC.of (L := [_, _, _, _, _, _]) (by decide +kernel) rfl (Nat.le_of_ble_eq_true rfl) (fun Z hZ hR => ?_)
  have loop : ∀ (m : Nat) (i : Int) , f ≤ i → i + m = M 37 2 → (bhd 2 (M 20) (M 37 2) f = bhd 2 (M 20) (M 37 2) i) → fG X mX2_behind Z 2 [.ref (xa X 37), .int (iv f), .int (iv 48), .int (iv i), .null, .null] [] (M) := by
    intro m
    induction m with
    | zero =>
      intro i  h0 hw hinv
      refine f_iload_n hZ dX2_behind_2 rfl ?_
      refine f_aload_n hZ dX2_behind_3 rfl ?_
      refine gX2_9 hZ dX2_behind_4 (fun r4 => ?_)
      refine f_ige (tgt := 80) hZ dX2_behind_7 rfl (by omega) (by omega) (fun h7 => ?_) (fun h7 => ?_)
      · refine f_aload_n hZ dX2_behind_80 rfl ?_
        refine gX2_9 hZ dX2_behind_81 (fun r81 => ?_)
        exact f_retI hZ hR dX2_behind_84 rfl (by omega) (by refine ⟨rfl, ?_⟩; rw [hinv]; first | (rw [bhd_end (by omega)]; omega) | (rw [bhd_stop (fun z => by have z : bDg (M 20 i) := z; omega)]))
      · exfalso; omega
    | succ m ih =>
      intro i  h0 hw hinv
      refine f_iload_n hZ dX2_behind_2 rfl ?_
      refine f_aload_n hZ dX2_behind_3 rfl ?_
      refine gX2_9 hZ dX2_behind_4 (fun r4 => ?_)
      refine f_ige (tgt := 80) hZ dX2_behind_7 rfl (by omega) (by omega) (fun h7 => ?_) (fun h7 => ?_)
      · exfalso; omega
      · refine f_aload_n hZ dX2_behind_10 rfl ?_
        refine gX2_33 hZ dX2_behind_11 ?_
        refine f_iload_n hZ dX2_behind_14 rfl ?_
        refine f_iaload hZ dX2_behind_15 (by first | rfl | exact hC.t1 | exact hC.t2 | exact hC.t3 | exact hC.t4 | exact hC.t5) (by first | rfl | exact hC.l1 | exact hC.l2 | exact hC.l3 | exact hC.l4 | exact hC.l5) (by omega) (by omega) (fun r15 => ?_)
        refine f_istore (L' := [_, _, _, _, _, _]) hZ dX2_behind_16 rfl rfl ?_
        refine f_iload_n hZ dX2_behind_18 rfl ?_
        refine f_bipush hZ dX2_behind_19 ?_
        refine f_ine (tgt := 32) hZ dX2_behind_21 rfl (by omega) (by omega) (fun h21 => ?_) (fun h21 => ?_)
        · refine f_iload_n hZ dX2_behind_32 rfl ?_
          refine f_bipush hZ dX2_behind_33 ?_
          refine f_ine (tgt := 46) hZ dX2_behind_35 rfl (by omega) (by omega) (fun h35 => ?_) (fun h35 => ?_)
          · exfalso; omega
          · refine f_iload hZ dX2_behind_38 rfl ?_
            refine sX2_92 hZ dX2_behind_40 (t_X2_isDigit (by omega)) (fun a40 M40 r40 h40 => ?_)
            obtain ⟨e40, h40⟩ := h40
            replace e40 := e40.symm
            subst e40
            refine f_goto (tgt := 65) hZ dX2_behind_43 rfl ?_
            refine f_istore (L' := [_, _, _, _, _, _]) hZ dX2_behind_65 rfl rfl ?_
            refine f_iload hZ dX2_behind_67 rfl ?_
            refine f_ne (tgt := 74) hZ dX2_behind_69 rfl (by omega) (fun h69 => ?_) (fun h69 => ?_)
            · refine f_iinc (L' := [_, _, _, _, _, _]) hZ dX2_behind_74 rfl rfl ?_
              refine f_goto (tgt := 2) hZ dX2_behind_77 rfl ?_
              refine f_forget (L' := [_, _, _, _, .null, .null]) ⟨Or.inl rfl, Or.inl rfl, Or.inl rfl, Or.inl rfl, Or.inr rfl, Or.inr rfl, trivial⟩ ?_
              exact ih (i + 1) (by omega) (by omega) (by rw [hinv]; exact bhd_step (by omega) (show bDg (M 20 i) by omega))
            · refine f_iload_n hZ dX2_behind_72 rfl ?_
              exact f_retI hZ hR dX2_behind_73 rfl (by omega) (by refine ⟨rfl, ?_⟩; rw [hinv]; first | (rw [bhd_end (by omega)]; omega) | (rw [bhd_stop (fun z => by have z : bDg (M 20 i) := z; omega)]))
        · exfalso; omega
  refine f_iload_n hZ dX2_behind_0 rfl ?_
  refine f_istore_n (L' := [_, _, _, _, _, _]) hZ dX2_behind_1 rfl rfl ?_
  exact loop (M 37 2 - f).toNat f (by omega) (by omega) rfl

def tnP (M K : fM) : Prop := rFld M K ∧ K 37 4 = M 37 4 ∧ K 37 5 = M 37 5 ∧ (4 < M 37 5 - M 37 4 → K 37 8 = M 37 4 ∧ K 37 6 = 259) ∧ (¬ 4 < M 37 5 - M 37 4 → K 37 8 = -1 ∧ K 37 6 = 256 ∧ K 37 7 = nv (M 20) (M 37 4) (M 37 5 - M 37 4).toNat)
theorem failM_f {M : fM} (h8 : M 37 8 = -1) : rFld M (failM M) ∧ failM M 37 4 = M 37 4 ∧ failM M 37 5 = M 37 5 ∧ failM M 37 8 = M 37 4 ∧ failM M 37 6 = 259 := by
  unfold failM
  rw [if_pos h8]
  exact ⟨⟨fun c hc => by rw [up_ne hc, up_ne hc], rfl, rfl, rfl⟩, rfl, rfl, rfl, rfl⟩
theorem tnP_f {M : fM} (h8 : M 37 8 = -1) (h : 4 < M 37 5 - M 37 4) : tnP M (failM M) := by
  have := failM_f h8
  exact ⟨this.1, this.2.1, this.2.2.1, fun _ => this.2.2.2, fun q => absurd h q⟩
theorem tnP_n {M : fM} (h8 : M 37 8 = -1) (h : ¬ 4 < M 37 5 - M 37 4) : tnP M (up (up M 37 7 (nv (M 20) (M 37 4) (M 37 5 - M 37 4).toNat)) 37 6 256) :=
  ⟨⟨fun c hc => by rw [up_ne hc, up_ne hc], rfl, rfl, rfl⟩, rfl, rfl, fun q => absurd q h, fun _ => ⟨h8, rfl, rfl⟩⟩
theorem nv_top {k : Nat} : (if k = 0 then (0 : Int) else if k = 1 then 9 else if k = 2 then 99 else if k = 3 then 999 else 9999) ≤ 9999 := by
  repeat' split
  all_goals omega
set_option maxRecDepth 20000 in
set_option maxHeartbeats 4000000 in
theorem t_X2_takeNumber {X : fX} {M : fM} {d : Nat} (h8 : M 37 8 = -1) (ha : 0 ≤ M 37 4 ∧ M 37 4 < M 37 5) (hx : M 37 5 ≤ 160) (hdg : ∀ j, M 37 4 ≤ j → j < M 37 5 → bDg (M 20 j)) : fC X (d + 1) mX2_takeNumber [.ref (xa X 37)] M (QV fun K => tnP M K) := by
  refine fC.of (L := [_, _]) (by decide +kernel) rfl (Nat.le_of_ble_eq_true rfl) (fun Z hZ hR => ?_)
  have loop : M 37 5 - M 37 4 ≤ 4 → ∀ (m : Nat) (i : Int) , M 37 4 ≤ i → i + m = M 37 5 →  fG X mX2_takeNumber Z 28 [.ref (xa X 37), .int (iv i)] [] (up M 37 7 (nv (M 20) (M 37 4) (i - M 37 4).toNat)) := by
    intro h4' m
    have h4 : ¬ 4 < M 37 5 - M 37 4 := by omega
    induction m with
    | zero =>
      intro i  h0 hw 
      have hnv1 := (nv_rg (B := M 20) (a := M 37 4) (i - M 37 4).toNat (fun j a b => hdg j a (by omega)) (by omega)).1
      have hnv2 := Int.le_trans (nv_rg (B := M 20) (a := M 37 4) (i - M 37 4).toNat (fun j a b => hdg j a (by omega)) (by omega)).2 nv_top
      refine f_iload_n hZ dX2_takeNumber_28 rfl ?_
      refine f_aload_n hZ dX2_takeNumber_29 rfl ?_
      refine gX2_21 hZ dX2_takeNumber_30 (fun r30 => ?_)
      try simp only [up_app, Nat.reduceEqDiff, Int.reduceEq, and_true, true_and, and_self, and_false, false_and, if_true, if_false, reduceIte] at r30 ⊢
      refine f_ige (tgt := 63) hZ dX2_takeNumber_33 rfl (by omega) (by omega) (fun h33 => ?_) (fun h33 => ?_)
      · refine f_aload_n hZ dX2_takeNumber_63 rfl ?_
        refine f_sipush hZ dX2_takeNumber_64 ?_
        refine pX2_24 hZ dX2_takeNumber_67 (by omega) ?_
        exact f_retV hZ hR dX2_takeNumber_70 rfl (by rw [show i = M 37 5 by omega]; exact tnP_n h8 h4)
      · exfalso; omega
    | succ m ih =>
      intro i  h0 hw 
      have hnv1 := (nv_rg (B := M 20) (a := M 37 4) (i - M 37 4).toNat (fun j a b => hdg j a (by omega)) (by omega)).1
      have hnv2 := Int.le_trans (nv_rg (B := M 20) (a := M 37 4) (i - M 37 4).toNat (fun j a b => hdg j a (by omega)) (by omega)).2 nv_top
      refine f_iload_n hZ dX2_takeNumber_28 rfl ?_
      refine f_aload_n hZ dX2_takeNumber_29 rfl ?_
      refine gX2_21 hZ dX2_takeNumber_30 (fun r30 => ?_)
      try simp only [up_app, Nat.reduceEqDiff, Int.reduceEq, and_true, true_and, and_self, and_false, false_and, if_true, if_false, reduceIte] at r30 ⊢
      refine f_ige (tgt := 63) hZ dX2_takeNumber_33 rfl (by omega) (by omega) (fun h33 => ?_) (fun h33 => ?_)
      · exfalso; omega
      · have hdi := hdg i (by omega) (by omega)
        refine f_aload_n hZ dX2_takeNumber_36 rfl ?_
        refine f_aload_n hZ dX2_takeNumber_37 rfl ?_
        refine gX2_27 hZ dX2_takeNumber_38 (fun r38 => ?_)
        try simp only [up_app, Nat.reduceEqDiff, Int.reduceEq, and_true, true_and, and_self, and_false, false_and, if_true, if_false, reduceIte] at r38 ⊢
        refine f_bipush hZ dX2_takeNumber_41 ?_
        refine f_imul hZ dX2_takeNumber_43 ?_
        refine f_aload_n hZ dX2_takeNumber_44 rfl ?_
        refine gX2_33 hZ dX2_takeNumber_45 ?_
        refine f_iload_n hZ dX2_takeNumber_48 rfl ?_
        refine f_iaload hZ dX2_takeNumber_49 (by first | rfl | exact hC.t1 | exact hC.t2 | exact hC.t3 | exact hC.t4 | exact hC.t5) (by first | rfl | exact hC.l1 | exact hC.l2 | exact hC.l3 | exact hC.l4 | exact hC.l5) (by omega) (by omega) (fun r49 => ?_)
        try simp only [up_app, Nat.reduceEqDiff, Int.reduceEq, and_true, true_and, and_self, and_false, false_and, if_true, if_false, reduceIte] at r49 ⊢
        refine f_iadd hZ dX2_takeNumber_50 ?_
        refine f_bipush hZ dX2_takeNumber_51 ?_
        refine f_isub hZ dX2_takeNumber_53 ?_
        refine pX2_27 hZ dX2_takeNumber_54 (by omega) ?_
        refine f_iinc (L' := [_, _]) hZ dX2_takeNumber_57 rfl rfl ?_
        refine f_goto (tgt := 28) hZ dX2_takeNumber_60 rfl ?_
        have hh := ih (i + 1) (by omega) (by omega)
        rw [show (i + 1 - M 37 4).toNat = (i - M 37 4).toNat + 1 by omega] at hh
        rw [up_up]
        refine f_eqM (congrArg (up M 37 7) ?_) hh
        show nv (M 20) (M 37 4) (i - M 37 4).toNat * 10 + M 20 i - 48 = nv (M 20) (M 37 4) (i - M 37 4).toNat * 10 + M 20 (M 37 4 + ((i - M 37 4).toNat : Int)) - 48
        rw [show M 37 4 + ((i - M 37 4).toNat : Int) = i by omega]
  refine f_aload_n hZ dX2_takeNumber_0 rfl ?_
  refine gX2_21 hZ dX2_takeNumber_1 (fun r1 => ?_)
  try simp only [up_app, Nat.reduceEqDiff, Int.reduceEq, and_true, true_and, and_self, and_false, false_and, if_true, if_false, reduceIte] at r1 ⊢
  refine f_aload_n hZ dX2_takeNumber_4 rfl ?_
  refine gX2_18 hZ dX2_takeNumber_5 (fun r5 => ?_)
  try simp only [up_app, Nat.reduceEqDiff, Int.reduceEq, and_true, true_and, and_self, and_false, false_and, if_true, if_false, reduceIte] at r5 ⊢
  refine f_isub hZ dX2_takeNumber_8 ?_
  refine f_iconst hZ dX2_takeNumber_9 ?_
  refine f_ile (tgt := 18) hZ dX2_takeNumber_10 rfl (by omega) (by omega) (fun h10 => ?_) (fun h10 => ?_)
  · refine f_aload_n hZ dX2_takeNumber_18 rfl ?_
    refine f_iconst hZ dX2_takeNumber_19 ?_
    refine pX2_27 hZ dX2_takeNumber_20 (by omega) ?_
    refine f_aload_n hZ dX2_takeNumber_23 rfl ?_
    refine gX2_18 hZ dX2_takeNumber_24 (fun r24 => ?_)
    try simp only [up_app, Nat.reduceEqDiff, Int.reduceEq, and_true, true_and, and_self, and_false, false_and, if_true, if_false, reduceIte] at r24 ⊢
    refine f_istore_n (L' := [_, _]) hZ dX2_takeNumber_27 rfl rfl ?_
    have hh := loop h10 (M 37 5 - M 37 4).toNat (M 37 4) (by omega) (by omega)
    rw [show (M 37 4 - M 37 4).toNat = 0 by omega] at hh
    exact hh
  · refine f_aload_n hZ dX2_takeNumber_13 rfl ?_
    refine vX2_56 hZ dX2_takeNumber_14 (t_X2_fail) (fun M14 h14 => ?_)
    exact f_retV hZ hR dX2_takeNumber_17 rfl (by rw [h14]; exact tnP_f h8 (by omega))

def wcmp (M : fM) (i : Nat) : Prop := M 37 5 - M 37 4 = wlen i ∧ ∀ k : Int, 0 ≤ k → k < wlen i → M 20 (M 37 4 + k) = wch i k
set_option maxRecDepth 20000 in
set_option maxHeartbeats 4000000 in
theorem t_X2_isWord {X : fX} {M : fM} {d i : Nat} (hi : i < 12) (ha : 0 ≤ M 37 4 ∧ M 37 4 ≤ M 37 5 ∧ M 37 5 ≤ 160) : fC X (d + 4) mX2_isWord [.ref (xa X 37), .ref (xK X i)] M (QI fun r M' => M' = M ∧ bz r (wcmp M i)) := by
  have hw := wlen_all i hi
  refine fC.of (L := [_, _, _]) (by decide +kernel) rfl (Nat.le_of_ble_eq_true rfl) (fun Z hZ hR => ?_)
  have loop : ∀ (m : Nat) (k : Int) , 0 ≤ k → k + m = wlen i → (M 37 5 - M 37 4 = wlen i) → (∀ j, 0 ≤ j → j < k → M 20 (M 37 4 + j) = wch i j) → fG X mX2_isWord Z 20 [.ref (xa X 37), .ref (xK X i), .int (iv k)] [] (M) := by
    intro m
    induction m with
    | zero =>
      intro k  h0 hw hle hinv
      refine f_iload_n hZ dX2_isWord_20 rfl ?_
      refine f_aload_n hZ dX2_isWord_21 rfl ?_
      refine f_cvSI hZ dX2_isWord_22 okJ0_length_8abf5 ws_len hi (As := []) rfl rfl (Nat.le_of_ble_eq_true rfl) (t_slen hi) (fun aL ML rL hL => ?_)
      obtain ⟨eL, hL⟩ := hL
      subst eL
      subst hL
      refine f_ige (tgt := 55) hZ dX2_isWord_25 rfl (by omega) (by omega) (fun h25 => ?_) (fun h25 => ?_)
      · refine f_iconst hZ dX2_isWord_55 ?_
        exact f_retZ hZ hR dX2_isWord_56 rfl (by omega) (by refine ⟨rfl, ?_⟩; first | exact Or.inl ⟨rfl, by omega, fun j j0 j1 => hinv j j0 (by omega)⟩ | exact Or.inr ⟨rfl, fun z => by have := z.2 k h0 (by omega); omega⟩)
      · exfalso; omega
    | succ m ih =>
      intro k  h0 hw hle hinv
      refine f_iload_n hZ dX2_isWord_20 rfl ?_
      refine f_aload_n hZ dX2_isWord_21 rfl ?_
      refine f_cvSI hZ dX2_isWord_22 okJ0_length_8abf5 ws_len hi (As := []) rfl rfl (Nat.le_of_ble_eq_true rfl) (t_slen hi) (fun aL ML rL hL => ?_)
      obtain ⟨eL, hL⟩ := hL
      subst eL
      subst hL
      refine f_ige (tgt := 55) hZ dX2_isWord_25 rfl (by omega) (by omega) (fun h25 => ?_) (fun h25 => ?_)
      · exfalso; omega
      · refine f_aload_n hZ dX2_isWord_28 rfl ?_
        refine gX2_33 hZ dX2_isWord_29 ?_
        refine f_aload_n hZ dX2_isWord_32 rfl ?_
        refine gX2_18 hZ dX2_isWord_33 (fun r33 => ?_)
        refine f_iload_n hZ dX2_isWord_36 rfl ?_
        refine f_iadd hZ dX2_isWord_37 ?_
        refine f_iaload hZ dX2_isWord_38 (by first | rfl | exact hC.t1 | exact hC.t2 | exact hC.t3 | exact hC.t4 | exact hC.t5) (by first | rfl | exact hC.l1 | exact hC.l2 | exact hC.l3 | exact hC.l4 | exact hC.l5) (by omega) (by omega) (fun r38 => ?_)
        refine f_aload_n hZ dX2_isWord_39 rfl ?_
        refine f_iload_n hZ dX2_isWord_40 rfl ?_
        refine f_cvSI hZ dX2_isWord_41 okJ0_charAt_5068e ws_chr hi (As := [.int (iv k)]) rfl rfl (Nat.le_of_ble_eq_true rfl) (t_chr hi h0 (by omega)) (fun aC MC rC hC => ?_)
        obtain ⟨eC, hC⟩ := hC
        subst eC
        subst hC
        refine f_ieq (tgt := 49) hZ dX2_isWord_44 rfl (by omega) (by omega) (fun h44 => ?_) (fun h44 => ?_)
        · refine f_iinc (L' := [_, _, _]) hZ dX2_isWord_49 rfl rfl ?_
          refine f_goto (tgt := 20) hZ dX2_isWord_52 rfl ?_
          exact ih (k + 1) (by omega) (by omega) hle (fun j j0 j1 => by
            by_cases hj : j = k
            · rw [hj]; omega
            · exact hinv j j0 (by omega))
        · refine f_iconst hZ dX2_isWord_47 ?_
          exact f_retZ hZ hR dX2_isWord_48 rfl (by omega) (by refine ⟨rfl, ?_⟩; first | exact Or.inl ⟨rfl, by omega, fun j j0 j1 => hinv j j0 (by omega)⟩ | exact Or.inr ⟨rfl, fun z => by have := z.2 k h0 (by omega); omega⟩)
  refine f_aload_n hZ dX2_isWord_0 rfl ?_
  refine f_cvSI hZ dX2_isWord_1 okJ0_length_8abf5 ws_len hi (As := []) rfl rfl (Nat.le_of_ble_eq_true rfl) (t_slen hi) (fun aL ML rL hL => ?_)
  obtain ⟨eL, hL⟩ := hL
  subst eL
  subst hL
  refine f_aload_n hZ dX2_isWord_4 rfl ?_
  refine gX2_21 hZ dX2_isWord_5 (fun r5 => ?_)
  refine f_aload_n hZ dX2_isWord_8 rfl ?_
  refine gX2_18 hZ dX2_isWord_9 (fun r9 => ?_)
  refine f_isub hZ dX2_isWord_12 ?_
  refine f_ieq (tgt := 18) hZ dX2_isWord_13 rfl (by omega) (by omega) (fun h13 => ?_) (fun h13 => ?_)
  · refine f_iconst hZ dX2_isWord_18 ?_
    refine f_istore_n (L' := [_, _, _]) hZ dX2_isWord_19 rfl rfl ?_
    exact loop (wlen i) 0 (by omega) (by omega) (by omega) (fun j a b => by omega)
  · refine f_iconst hZ dX2_isWord_16 ?_
    exact f_retZ hZ hR dX2_isWord_17 rfl (by omega) (by exact ⟨rfl, Or.inr ⟨rfl, fun z => by have := z.1; omega⟩⟩)

theorem wcmp_0 {M : fM} : wcmp M 0 ↔ wq0 (M 20) (M 37 4) (M 37 5) := by
  constructor
  · rintro ⟨h1, h2⟩
    have c0 : M 20 (M 37 4 + 0) = 112 := h2 0 (by decide) (by decide)
    have c1 : M 20 (M 37 4 + 1) = 97 := h2 1 (by decide) (by decide)
    have c2 : M 20 (M 37 4 + 2) = 114 := h2 2 (by decide) (by decide)
    have c3 : M 20 (M 37 4 + 3) = 116 := h2 3 (by decide) (by decide)
    have c4 : M 20 (M 37 4 + 4) = 115 := h2 4 (by decide) (by decide)
    have h1 : M 37 5 - M 37 4 = 5 := h1
    exact ⟨h1, c0, c1, c2, c3, c4⟩
  · rintro ⟨h1, c0, c1, c2, c3, c4⟩
    refine ⟨h1, fun k k0 k1 => ?_⟩
    have k1 : k < 5 := k1
    rcases (show k = 0 ∨ k = 1 ∨ k = 2 ∨ k = 3 ∨ k = 4 by omega) with e | e | e | e | e
    · subst e; exact c0
    · subst e; exact c1
    · subst e; exact c2
    · subst e; exact c3
    · subst e; exact c4
theorem wcmp_1 {M : fM} : wcmp M 1 ↔ wq1 (M 20) (M 37 4) (M 37 5) := by
  constructor
  · rintro ⟨h1, h2⟩
    have c0 : M 20 (M 37 4 + 0) = 100 := h2 0 (by decide) (by decide)
    have c1 : M 20 (M 37 4 + 1) = 97 := h2 1 (by decide) (by decide)
    have c2 : M 20 (M 37 4 + 2) = 109 := h2 2 (by decide) (by decide)
    have c3 : M 20 (M 37 4 + 3) = 112 := h2 3 (by decide) (by decide)
    have h1 : M 37 5 - M 37 4 = 4 := h1
    exact ⟨h1, c0, c1, c2, c3⟩
  · rintro ⟨h1, c0, c1, c2, c3⟩
    refine ⟨h1, fun k k0 k1 => ?_⟩
    have k1 : k < 4 := k1
    rcases (show k = 0 ∨ k = 1 ∨ k = 2 ∨ k = 3 by omega) with e | e | e | e
    · subst e; exact c0
    · subst e; exact c1
    · subst e; exact c2
    · subst e; exact c3
theorem wcmp_2 {M : fM} : wcmp M 2 ↔ wq2 (M 20) (M 37 4) (M 37 5) := by
  constructor
  · rintro ⟨h1, h2⟩
    have c0 : M 20 (M 37 4 + 0) = 108 := h2 0 (by decide) (by decide)
    have c1 : M 20 (M 37 4 + 1) = 105 := h2 1 (by decide) (by decide)
    have c2 : M 20 (M 37 4 + 2) = 116 := h2 2 (by decide) (by decide)
    have h1 : M 37 5 - M 37 4 = 3 := h1
    exact ⟨h1, c0, c1, c2⟩
  · rintro ⟨h1, c0, c1, c2⟩
    refine ⟨h1, fun k k0 k1 => ?_⟩
    have k1 : k < 3 := k1
    rcases (show k = 0 ∨ k = 1 ∨ k = 2 by omega) with e | e | e
    · subst e; exact c0
    · subst e; exact c1
    · subst e; exact c2
theorem wcmp_3 {M : fM} : wcmp M 3 ↔ wq3 (M 20) (M 37 4) (M 37 5) := by
  constructor
  · rintro ⟨h1, h2⟩
    have c0 : M 20 (M 37 4 + 0) = 98 := h2 0 (by decide) (by decide)
    have c1 : M 20 (M 37 4 + 1) = 117 := h2 1 (by decide) (by decide)
    have c2 : M 20 (M 37 4 + 2) = 114 := h2 2 (by decide) (by decide)
    have c3 : M 20 (M 37 4 + 3) = 110 := h2 3 (by decide) (by decide)
    have c4 : M 20 (M 37 4 + 4) = 116 := h2 4 (by decide) (by decide)
    have h1 : M 37 5 - M 37 4 = 5 := h1
    exact ⟨h1, c0, c1, c2, c3, c4⟩
  · rintro ⟨h1, c0, c1, c2, c3, c4⟩
    refine ⟨h1, fun k k0 k1 => ?_⟩
    have k1 : k < 5 := k1
    rcases (show k = 0 ∨ k = 1 ∨ k = 2 ∨ k = 3 ∨ k = 4 by omega) with e | e | e | e | e
    · subst e; exact c0
    · subst e; exact c1
    · subst e; exact c2
    · subst e; exact c3
    · subst e; exact c4
theorem wcmp_4 {M : fM} : wcmp M 4 ↔ wq4 (M 20) (M 37 4) (M 37 5) := by
  constructor
  · rintro ⟨h1, h2⟩
    have c0 : M 20 (M 37 4 + 0) = 119 := h2 0 (by decide) (by decide)
    have c1 : M 20 (M 37 4 + 1) = 105 := h2 1 (by decide) (by decide)
    have c2 : M 20 (M 37 4 + 2) = 99 := h2 2 (by decide) (by decide)
    have c3 : M 20 (M 37 4 + 3) = 107 := h2 3 (by decide) (by decide)
    have h1 : M 37 5 - M 37 4 = 4 := h1
    exact ⟨h1, c0, c1, c2, c3⟩
  · rintro ⟨h1, c0, c1, c2, c3⟩
    refine ⟨h1, fun k k0 k1 => ?_⟩
    have k1 : k < 4 := k1
    rcases (show k = 0 ∨ k = 1 ∨ k = 2 ∨ k = 3 by omega) with e | e | e | e
    · subst e; exact c0
    · subst e; exact c1
    · subst e; exact c2
    · subst e; exact c3
theorem wcmp_5 {M : fM} : wcmp M 5 ↔ wq5 (M 20) (M 37 4) (M 37 5) := by
  constructor
  · rintro ⟨h1, h2⟩
    have c0 : M 20 (M 37 4 + 0) = 115 := h2 0 (by decide) (by decide)
    have c1 : M 20 (M 37 4 + 1) = 112 := h2 1 (by decide) (by decide)
    have c2 : M 20 (M 37 4 + 2) = 97 := h2 2 (by decide) (by decide)
    have c3 : M 20 (M 37 4 + 3) = 110 := h2 3 (by decide) (by decide)
    have h1 : M 37 5 - M 37 4 = 4 := h1
    exact ⟨h1, c0, c1, c2, c3⟩
  · rintro ⟨h1, c0, c1, c2, c3⟩
    refine ⟨h1, fun k k0 k1 => ?_⟩
    have k1 : k < 4 := k1
    rcases (show k = 0 ∨ k = 1 ∨ k = 2 ∨ k = 3 by omega) with e | e | e | e
    · subst e; exact c0
    · subst e; exact c1
    · subst e; exact c2
    · subst e; exact c3
theorem wcmp_6 {M : fM} : wcmp M 6 ↔ wq6 (M 20) (M 37 4) (M 37 5) := by
  constructor
  · rintro ⟨h1, h2⟩
    have c0 : M 20 (M 37 4 + 0) = 99 := h2 0 (by decide) (by decide)
    have c1 : M 20 (M 37 4 + 1) = 111 := h2 1 (by decide) (by decide)
    have c2 : M 20 (M 37 4 + 2) = 115 := h2 2 (by decide) (by decide)
    have c3 : M 20 (M 37 4 + 3) = 116 := h2 3 (by decide) (by decide)
    have c4 : M 20 (M 37 4 + 4) = 115 := h2 4 (by decide) (by decide)
    have h1 : M 37 5 - M 37 4 = 5 := h1
    exact ⟨h1, c0, c1, c2, c3, c4⟩
  · rintro ⟨h1, c0, c1, c2, c3, c4⟩
    refine ⟨h1, fun k k0 k1 => ?_⟩
    have k1 : k < 5 := k1
    rcases (show k = 0 ∨ k = 1 ∨ k = 2 ∨ k = 3 ∨ k = 4 by omega) with e | e | e | e | e
    · subst e; exact c0
    · subst e; exact c1
    · subst e; exact c2
    · subst e; exact c3
    · subst e; exact c4
theorem wcmp_7 {M : fM} : wcmp M 7 ↔ wq7 (M 20) (M 37 4) (M 37 5) := by
  constructor
  · rintro ⟨h1, h2⟩
    have c0 : M 20 (M 37 4 + 0) = 119 := h2 0 (by decide) (by decide)
    have c1 : M 20 (M 37 4 + 1) = 111 := h2 1 (by decide) (by decide)
    have c2 : M 20 (M 37 4 + 2) = 114 := h2 2 (by decide) (by decide)
    have c3 : M 20 (M 37 4 + 3) = 116 := h2 3 (by decide) (by decide)
    have c4 : M 20 (M 37 4 + 4) = 104 := h2 4 (by decide) (by decide)
    have h1 : M 37 5 - M 37 4 = 5 := h1
    exact ⟨h1, c0, c1, c2, c3, c4⟩
  · rintro ⟨h1, c0, c1, c2, c3, c4⟩
    refine ⟨h1, fun k k0 k1 => ?_⟩
    have k1 : k < 5 := k1
    rcases (show k = 0 ∨ k = 1 ∨ k = 2 ∨ k = 3 ∨ k = 4 by omega) with e | e | e | e | e
    · subst e; exact c0
    · subst e; exact c1
    · subst e; exact c2
    · subst e; exact c3
    · subst e; exact c4
theorem wcmp_8 {M : fM} : wcmp M 8 ↔ wq8 (M 20) (M 37 4) (M 37 5) := by
  constructor
  · rintro ⟨h1, h2⟩
    have c0 : M 20 (M 37 4 + 0) = 100 := h2 0 (by decide) (by decide)
    have c1 : M 20 (M 37 4 + 1) = 114 := h2 1 (by decide) (by decide)
    have c2 : M 20 (M 37 4 + 2) = 105 := h2 2 (by decide) (by decide)
    have c3 : M 20 (M 37 4 + 3) = 102 := h2 3 (by decide) (by decide)
    have c4 : M 20 (M 37 4 + 4) = 116 := h2 4 (by decide) (by decide)
    have h1 : M 37 5 - M 37 4 = 5 := h1
    exact ⟨h1, c0, c1, c2, c3, c4⟩
  · rintro ⟨h1, c0, c1, c2, c3, c4⟩
    refine ⟨h1, fun k k0 k1 => ?_⟩
    have k1 : k < 5 := k1
    rcases (show k = 0 ∨ k = 1 ∨ k = 2 ∨ k = 3 ∨ k = 4 by omega) with e | e | e | e | e
    · subst e; exact c0
    · subst e; exact c1
    · subst e; exact c2
    · subst e; exact c3
    · subst e; exact c4
theorem wcmp_9 {M : fM} : wcmp M 9 ↔ wq9 (M 20) (M 37 4) (M 37 5) := by
  constructor
  · rintro ⟨h1, h2⟩
    have c0 : M 20 (M 37 4 + 0) = 111 := h2 0 (by decide) (by decide)
    have c1 : M 20 (M 37 4 + 1) = 114 := h2 1 (by decide) (by decide)
    have h1 : M 37 5 - M 37 4 = 2 := h1
    exact ⟨h1, c0, c1⟩
  · rintro ⟨h1, c0, c1⟩
    refine ⟨h1, fun k k0 k1 => ?_⟩
    have k1 : k < 2 := k1
    rcases (show k = 0 ∨ k = 1 by omega) with e | e
    · subst e; exact c0
    · subst e; exact c1
theorem wcmp_10 {M : fM} : wcmp M 10 ↔ wq10 (M 20) (M 37 4) (M 37 5) := by
  constructor
  · rintro ⟨h1, h2⟩
    have c0 : M 20 (M 37 4 + 0) = 97 := h2 0 (by decide) (by decide)
    have c1 : M 20 (M 37 4 + 1) = 110 := h2 1 (by decide) (by decide)
    have c2 : M 20 (M 37 4 + 2) = 100 := h2 2 (by decide) (by decide)
    have h1 : M 37 5 - M 37 4 = 3 := h1
    exact ⟨h1, c0, c1, c2⟩
  · rintro ⟨h1, c0, c1, c2⟩
    refine ⟨h1, fun k k0 k1 => ?_⟩
    have k1 : k < 3 := k1
    rcases (show k = 0 ∨ k = 1 ∨ k = 2 by omega) with e | e | e
    · subst e; exact c0
    · subst e; exact c1
    · subst e; exact c2
theorem wcmp_11 {M : fM} : wcmp M 11 ↔ wq11 (M 20) (M 37 4) (M 37 5) := by
  constructor
  · rintro ⟨h1, h2⟩
    have c0 : M 20 (M 37 4 + 0) = 110 := h2 0 (by decide) (by decide)
    have c1 : M 20 (M 37 4 + 1) = 111 := h2 1 (by decide) (by decide)
    have c2 : M 20 (M 37 4 + 2) = 116 := h2 2 (by decide) (by decide)
    have h1 : M 37 5 - M 37 4 = 3 := h1
    exact ⟨h1, c0, c1, c2⟩
  · rintro ⟨h1, c0, c1, c2⟩
    refine ⟨h1, fun k k0 k1 => ?_⟩
    have k1 : k < 3 := k1
    rcases (show k = 0 ∨ k = 1 ∨ k = 2 by omega) with e | e | e
    · subst e; exact c0
    · subst e; exact c1
    · subst e; exact c2
