/-! the next token -/
def advP (M K : fM) : Prop := rFld M K ∧ (0 ≤ K 37 5 ∧ K 37 5 ≤ M 37 2) ∧ K 37 4 = (lex (M 20) (M 37 2) (M 37 5)).1 ∧
  ((lex (M 20) (M 37 2) (M 37 5)).2.2.1 = 259 → K 37 8 = (lex (M 20) (M 37 2) (M 37 5)).1 ∧ K 37 6 = 259) ∧
  ((lex (M 20) (M 37 2) (M 37 5)).2.2.1 ≠ 259 → K 37 8 = -1 ∧ K 37 6 = (lex (M 20) (M 37 2) (M 37 5)).2.2.1 ∧ ((lex (M 20) (M 37 2) (M 37 5)).2.2.1 ≠ 258 → K 37 5 = (lex (M 20) (M 37 2) (M 37 5)).2.1) ∧ ((lex (M 20) (M 37 2) (M 37 5)).2.2.1 = 256 ∨ (lex (M 20) (M 37 2) (M 37 5)).2.2.1 = 257 → K 37 7 = (lex (M 20) (M 37 2) (M 37 5)).2.2.2))
theorem advP.of {M K : fM} {a x t v : Int} (hl : lex (M 20) (M 37 2) (M 37 5) = (a, x, t, v)) (hf : rFld M K) (hr : 0 ≤ K 37 5 ∧ K 37 5 ≤ M 37 2) (h4 : K 37 4 = a) (hb : t = 259 → K 37 8 = a ∧ K 37 6 = 259) (hg : t ≠ 259 → K 37 8 = -1 ∧ K 37 6 = t ∧ (t ≠ 258 → K 37 5 = x) ∧ (t = 256 ∨ t = 257 → K 37 7 = v)) : advP M K := by
  unfold advP
  rw [hl]
  exact ⟨hf, hr, h4, hb, hg⟩
theorem rFld.trans {M N K : fM} (h : rFld M N) (h2 : rFld N K) : rFld M K := ⟨fun c hc => by rw [h2.1 c hc, h.1 c hc], by rw [h2.2.1, h.2.1], by rw [h2.2.2.1, h.2.2.1], by rw [h2.2.2.2, h.2.2.2]⟩
theorem rFld.up {M N : fM} {i v : Int} (h : rFld M N) (hi : i ≠ 1 ∧ i ≠ 2 ∧ i ≠ 3) : rFld M (up N 37 i v) := ⟨fun c hc => by rw [up_ne hc, h.1 c hc], by rw [up_app, if_neg (by omega)]; exact h.2.1, by rw [up_app, if_neg (by omega)]; exact h.2.2.1, by rw [up_app, if_neg (by omega)]; exact h.2.2.2⟩
theorem rFld.refl {M : fM} : rFld M M := ⟨fun _ _ => rfl, rfl, rfl, rfl⟩
section Adv
variable {M K : fM} {a x : Int}
theorem adv_end (hn : 0 ≤ M 37 5 ∧ M 37 5 ≤ M 37 2) (ha : a = bhd 0 (M 20) (M 37 2) (M 37 5)) (h8 : M 37 8 = -1) (h : M 37 2 ≤ a) : advP M (up (up M 37 4 a) 37 6 258) := by
  refine advP.of (a := a) (x := a) (t := 258) (v := 0) ?_ ((rFld.refl.up (by decide)).up (by decide)) hn rfl (fun q => by omega) (fun _ => ⟨h8, rfl, fun q => absurd rfl q, fun q => by omega⟩)
  unfold lex
  rw [← ha, if_pos h]
theorem adv_word (hn : 0 ≤ x ∧ x ≤ M 37 2) (ha : a = bhd 0 (M 20) (M 37 2) (M 37 5)) (h : ¬ M 37 2 ≤ a) (hl : bLt (M 20 a)) (hx : x = bhd 1 (M 20) (M 37 2) a) (hK : twP (up (up M 37 4 a) 37 5 x) K) : advP M K := by
  obtain ⟨k1, k2, k3, k4, k5⟩ := hK
  have e20 : (up (up M 37 4 a) 37 5 x) 20 = M 20 := by rw [up_ne (by decide), up_ne (by decide)]
  have e4 : (up (up M 37 4 a) 37 5 x) 37 4 = a := rfl
  have e5 : (up (up M 37 4 a) 37 5 x) 37 5 = x := rfl
  rw [e20, e4, e5] at k4 k5
  have hw := wcl_rg (B := M 20) (a := a) (x := x)
  refine advP.of (a := a) (x := x) (t := (wcl (M 20) a x).1) (v := (wcl (M 20) a x).2) ?_ (((rFld.refl.up (by decide)).up (by decide)).trans k1) (by rw [k3, e5]; exact hn) (by rw [k2, e4]) k4 (fun q => ⟨(k5 q).1, (k5 q).2.1, fun _ => by rw [k3, e5], fun _ => (k5 q).2.2⟩)
  unfold lex
  rw [← ha, if_neg h, if_pos hl, ← hx]
theorem adv_num (hn : 0 ≤ x ∧ x ≤ M 37 2) (ha : a = bhd 0 (M 20) (M 37 2) (M 37 5)) (h : ¬ M 37 2 ≤ a) (hl : ¬ bLt (M 20 a)) (hd : bDg (M 20 a)) (hx : x = bhd 2 (M 20) (M 37 2) a) (hK : tnP (up (up M 37 4 a) 37 5 x) K) : advP M K := by
  obtain ⟨k1, k2, k3, k4, k5⟩ := hK
  have e20 : (up (up M 37 4 a) 37 5 x) 20 = M 20 := by rw [up_ne (by decide), up_ne (by decide)]
  have e4 : (up (up M 37 4 a) 37 5 x) 37 4 = a := rfl
  have e5 : (up (up M 37 4 a) 37 5 x) 37 5 = x := rfl
  rw [e4, e5] at k4
  rw [e20, e4, e5] at k5
  refine advP.of (a := a) (x := x) (t := if 4 < x - a then 259 else 256) (v := nv (M 20) a (x - a).toNat) ?_ (((rFld.refl.up (by decide)).up (by decide)).trans k1) (by rw [k3, e5]; exact hn) (by rw [k2, e4]) (fun q => k4 (Classical.byContradiction fun z => by rw [if_neg z] at q; omega)) (fun q => ?_)
  · unfold lex
    rw [← ha, if_neg h, if_neg hl, if_pos hd, ← hx]
  · have hz : ¬ 4 < x - a := fun z => q (if_pos z)
    rw [if_neg hz]
    exact ⟨(k5 hz).1, (k5 hz).2.1, fun _ => by rw [k3, e5], fun _ => (k5 hz).2.2⟩
theorem adv_sign (hn : 0 ≤ a ∧ a ≤ M 37 2) (ha : a = bhd 0 (M 20) (M 37 2) (M 37 5)) (h8 : M 37 8 = -1) (h : ¬ M 37 2 ≤ a) (hl : ¬ bLt (M 20 a)) (hd : ¬ bDg (M 20 a)) (hs : bSg (M 20 a)) : advP M (up (up (up M 37 4 a) 37 5 (a + 1)) 37 6 (M 20 a)) := by
  have hb : M 20 a < 100 := by omega
  refine advP.of (a := a) (x := a + 1) (t := M 20 a) (v := 0) ?_ (((rFld.refl.up (by decide)).up (by decide)).up (by decide)) (by show 0 ≤ a + 1 ∧ a + 1 ≤ M 37 2; omega) rfl (fun q => by omega) (fun _ => ⟨h8, rfl, fun _ => rfl, fun q => by omega⟩)
  unfold lex
  rw [← ha, if_neg h, if_neg hl, if_neg hd, if_pos hs]
theorem adv_bad (hn : 0 ≤ M 37 5 ∧ M 37 5 ≤ M 37 2) (ha : a = bhd 0 (M 20) (M 37 2) (M 37 5)) (h8 : M 37 8 = -1) (h : ¬ M 37 2 ≤ a) (hl : ¬ bLt (M 20 a)) (hd : ¬ bDg (M 20 a)) (hs : ¬ bSg (M 20 a)) : advP M (failM (up M 37 4 a)) := by
  have hf := failM_f (M := up M 37 4 a) h8
  refine advP.of (a := a) (x := a) (t := 259) (v := 0) ?_ ((rFld.refl.up (by decide)).trans hf.1) (by rw [hf.2.2.1]; exact hn) hf.2.1 (fun _ => hf.2.2.2) (fun q => absurd rfl q)
  unfold lex
  rw [← ha, if_neg h, if_neg hl, if_neg hd, if_neg hs]
end Adv
set_option maxRecDepth 20000 in
set_option maxHeartbeats 4000000 in
theorem t_X2_advance {X : fX} {M : fM} {d : Nat} (hn : 0 ≤ M 37 5 ∧ M 37 5 ≤ M 37 2 ∧ M 37 2 ≤ 160) : fC X (d + 6) mX2_advance [.ref (xa X 37)] M (QV fun K => (M 37 8 ≠ -1 ∧ K = M) ∨ (M 37 8 = -1 ∧ advP M K)) := by
  refine fC.of (L := [_, _]) (by decide +kernel) rfl (Nat.le_of_ble_eq_true rfl) (fun Z hZ hR => ?_)
  refine f_aload_n hZ dX2_advance_0 rfl ?_
  refine gX2_30 hZ dX2_advance_1 (fun r1 => ?_)
  try simp only [up_app, Nat.reduceEqDiff, Int.reduceEq, and_true, true_and, and_self, and_false, false_and, if_true, if_false, reduceIte] at r1 ⊢
  refine f_iconst hZ dX2_advance_4 ?_
  refine f_ieq (tgt := 9) hZ dX2_advance_5 rfl (by first | omega | (simp only [up_app, Nat.reduceEqDiff, Int.reduceEq, and_true, true_and, and_self, and_false, false_and, if_true, if_false, reduceIte]; omega)) (by first | omega | (simp only [up_app, Nat.reduceEqDiff, Int.reduceEq, and_true, true_and, and_self, and_false, false_and, if_true, if_false, reduceIte]; omega)) (fun h5 => ?_) (fun h5 => ?_)
  · have h8 : M 37 8 = -1 := by omega
    refine f_aload_n hZ dX2_advance_9 rfl ?_
    refine f_aload_n hZ dX2_advance_10 rfl ?_
    refine f_aload_n hZ dX2_advance_11 rfl ?_
    refine gX2_21 hZ dX2_advance_12 (fun r12 => ?_)
    try simp only [up_app, Nat.reduceEqDiff, Int.reduceEq, and_true, true_and, and_self, and_false, false_and, if_true, if_false, reduceIte] at r12 ⊢
    refine f_bipush hZ dX2_advance_15 ?_
    refine vX2_82 hZ dX2_advance_17 (t_X2_behind_32 (by omega) (by omega)) (fun a17 M17 r17 h17 => ?_)
    obtain ⟨e17, h17⟩ := h17
    replace e17 := e17.symm
    subst e17
    have hA := bhd_rg (q := 0) (B := M 20) (n := M 37 2) (i := M 37 5) hn.2.1
    rw [← h17] at hA
    have hA1 := hA.1
    have hA2 := hA.2.1
    clear hA
    refine pX2_18 hZ dX2_advance_20 (by first | omega | (simp only [up_app, Nat.reduceEqDiff, Int.reduceEq, and_true, true_and, and_self, and_false, false_and, if_true, if_false, reduceIte]; omega)) ?_
    refine f_aload_n hZ dX2_advance_23 rfl ?_
    refine gX2_18 hZ dX2_advance_24 (fun r24 => ?_)
    try simp only [up_app, Nat.reduceEqDiff, Int.reduceEq, and_true, true_and, and_self, and_false, false_and, if_true, if_false, reduceIte] at r24 ⊢
    refine f_aload_n hZ dX2_advance_27 rfl ?_
    refine gX2_9 hZ dX2_advance_28 (fun r28 => ?_)
    try simp only [up_app, Nat.reduceEqDiff, Int.reduceEq, and_true, true_and, and_self, and_false, false_and, if_true, if_false, reduceIte] at r28 ⊢
    refine f_ilt (tgt := 42) hZ dX2_advance_31 rfl (by first | omega | (simp only [up_app, Nat.reduceEqDiff, Int.reduceEq, and_true, true_and, and_self, and_false, false_and, if_true, if_false, reduceIte]; omega)) (by first | omega | (simp only [up_app, Nat.reduceEqDiff, Int.reduceEq, and_true, true_and, and_self, and_false, false_and, if_true, if_false, reduceIte]; omega)) (fun h31 => ?_) (fun h31 => ?_)
    · refine f_aload_n hZ dX2_advance_42 rfl ?_
      refine gX2_33 hZ dX2_advance_43 ?_
      refine f_aload_n hZ dX2_advance_46 rfl ?_
      refine gX2_18 hZ dX2_advance_47 (fun r47 => ?_)
      try simp only [up_app, Nat.reduceEqDiff, Int.reduceEq, and_true, true_and, and_self, and_false, false_and, if_true, if_false, reduceIte] at r47 ⊢
      refine f_iaload hZ dX2_advance_50 (by first | rfl | exact hC.t1 | exact hC.t2 | exact hC.t3 | exact hC.t4 | exact hC.t5) (by first | rfl | exact hC.l1 | exact hC.l2 | exact hC.l3 | exact hC.l4 | exact hC.l5) (by first | omega | (simp only [up_app, Nat.reduceEqDiff, Int.reduceEq, and_true, true_and, and_self, and_false, false_and, if_true, if_false, reduceIte]; omega)) (by first | omega | (simp only [up_app, Nat.reduceEqDiff, Int.reduceEq, and_true, true_and, and_self, and_false, false_and, if_true, if_false, reduceIte]; omega)) (fun r50 => ?_)
      try simp only [up_app, Nat.reduceEqDiff, Int.reduceEq, and_true, true_and, and_self, and_false, false_and, if_true, if_false, reduceIte] at r50 ⊢
      refine f_istore_n (L' := [_, _]) hZ dX2_advance_51 rfl rfl ?_
      refine f_iload_n hZ dX2_advance_52 rfl ?_
      refine sX2_85 hZ dX2_advance_53 (t_X2_isLetter (by omega)) (fun a53 M53 r53 h53 => ?_)
      obtain ⟨e53, h53⟩ := h53
      replace e53 := e53.symm
      subst e53
      refine f_eq (tgt := 80) hZ dX2_advance_56 rfl (by first | omega | (simp only [up_app, Nat.reduceEqDiff, Int.reduceEq, and_true, true_and, and_self, and_false, false_and, if_true, if_false, reduceIte]; omega)) (fun h56 => ?_) (fun h56 => ?_)
      · refine f_iload_n hZ dX2_advance_80 rfl ?_
        refine sX2_92 hZ dX2_advance_81 (t_X2_isDigit (by omega)) (fun a81 M81 r81 h81 => ?_)
        obtain ⟨e81, h81⟩ := h81
        replace e81 := e81.symm
        subst e81
        refine f_eq (tgt := 108) hZ dX2_advance_84 rfl (by first | omega | (simp only [up_app, Nat.reduceEqDiff, Int.reduceEq, and_true, true_and, and_self, and_false, false_and, if_true, if_false, reduceIte]; omega)) (fun h84 => ?_) (fun h84 => ?_)
        · refine f_iload_n hZ dX2_advance_108 rfl ?_
          refine sX2_98 hZ dX2_advance_109 (t_X2_isSign (by omega)) (fun a109 M109 r109 h109 => ?_)
          obtain ⟨e109, h109⟩ := h109
          replace e109 := e109.symm
          subst e109
          refine f_eq (tgt := 133) hZ dX2_advance_112 rfl (by first | omega | (simp only [up_app, Nat.reduceEqDiff, Int.reduceEq, and_true, true_and, and_self, and_false, false_and, if_true, if_false, reduceIte]; omega)) (fun h112 => ?_) (fun h112 => ?_)
          · refine f_aload_n hZ dX2_advance_133 rfl ?_
            refine vX2_56 hZ dX2_advance_134 (t_X2_fail) (fun M134 h134 => ?_)
            subst h134
            exact f_retV hZ hR dX2_advance_137 rfl (by first | exact Or.inr ⟨h8, adv_word ⟨by omega, by omega⟩ h17 (by omega) (by omega) h67 h74⟩ | exact Or.inr ⟨h8, adv_num ⟨by omega, by omega⟩ h17 (by omega) (by omega) (by omega) h95 h102⟩ | exact Or.inr ⟨h8, adv_sign ⟨by omega, by omega⟩ h17 h8 (by omega) (by omega) (by omega) (by omega)⟩ | exact Or.inr ⟨h8, adv_bad ⟨hn.1, hn.2.1⟩ h17 h8 (by omega) (by omega) (by omega) (by omega)⟩)
          · refine f_aload_n hZ dX2_advance_115 rfl ?_
            refine f_aload_n hZ dX2_advance_116 rfl ?_
            refine gX2_18 hZ dX2_advance_117 (fun r117 => ?_)
            try simp only [up_app, Nat.reduceEqDiff, Int.reduceEq, and_true, true_and, and_self, and_false, false_and, if_true, if_false, reduceIte] at r117 ⊢
            refine f_iconst hZ dX2_advance_120 ?_
            refine f_iadd hZ dX2_advance_121 ?_
            refine pX2_21 hZ dX2_advance_122 (by first | omega | (simp only [up_app, Nat.reduceEqDiff, Int.reduceEq, and_true, true_and, and_self, and_false, false_and, if_true, if_false, reduceIte]; omega)) ?_
            refine f_aload_n hZ dX2_advance_125 rfl ?_
            refine f_iload_n hZ dX2_advance_126 rfl ?_
            refine pX2_24 hZ dX2_advance_127 (by first | omega | (simp only [up_app, Nat.reduceEqDiff, Int.reduceEq, and_true, true_and, and_self, and_false, false_and, if_true, if_false, reduceIte]; omega)) ?_
            refine f_goto (tgt := 137) hZ dX2_advance_130 rfl ?_
            exact f_retV hZ hR dX2_advance_137 rfl (by first | exact Or.inr ⟨h8, adv_word ⟨by omega, by omega⟩ h17 (by omega) (by omega) h67 h74⟩ | exact Or.inr ⟨h8, adv_num ⟨by omega, by omega⟩ h17 (by omega) (by omega) (by omega) h95 h102⟩ | exact Or.inr ⟨h8, adv_sign ⟨by omega, by omega⟩ h17 h8 (by omega) (by omega) (by omega) (by omega)⟩ | exact Or.inr ⟨h8, adv_bad ⟨hn.1, hn.2.1⟩ h17 h8 (by omega) (by omega) (by omega) (by omega)⟩)
        · refine f_aload_n hZ dX2_advance_87 rfl ?_
          refine f_aload_n hZ dX2_advance_88 rfl ?_
          refine f_aload_n hZ dX2_advance_89 rfl ?_
          refine gX2_18 hZ dX2_advance_90 (fun r90 => ?_)
          try simp only [up_app, Nat.reduceEqDiff, Int.reduceEq, and_true, true_and, and_self, and_false, false_and, if_true, if_false, reduceIte] at r90 ⊢
          refine f_bipush hZ dX2_advance_93 ?_
          refine vX2_82 hZ dX2_advance_95 (t_X2_behind_48 (f := a17) (by simp only [up_app, Nat.reduceEqDiff, Int.reduceEq, and_true, true_and, and_self, and_false, false_and, if_true, if_false, reduceIte]; omega) (by simp only [up_app, Nat.reduceEqDiff, Int.reduceEq, and_true, true_and, and_self, and_false, false_and, if_true, if_false, reduceIte]; omega)) (fun a95 M95 r95 h95 => ?_)
          obtain ⟨e95, h95⟩ := h95
          replace e95 := e95.symm
          subst e95
          rw [up_ne (show (20 : Nat) ≠ 37 by decide)] at h95
          replace h95 : a95 = bhd 2 (M 20) (M 37 2) a17 := h95
          have hX := bhd_rg (q := 2) (B := M 20) (n := M 37 2) (i := a17) hA2
          rw [← h95] at hX
          have hX1 := hX.1
          have hX2 := hX.2.1
          have hX3 := hX.2.2.1
          clear hX
          have hXs : a17 < a95 := by
            have g1 : bhd 2 (M 20) (M 37 2) a17 = bhd 2 (M 20) (M 37 2) (a17 + 1) := bhd_step (by omega) (show bDg (M 20 a17) by omega)
            have g2 := (bhd_rg (q := 2) (B := M 20) (n := M 37 2) (i := a17 + 1) (by omega)).1
            omega
          refine pX2_21 hZ dX2_advance_98 (by first | omega | (simp only [up_app, Nat.reduceEqDiff, Int.reduceEq, and_true, true_and, and_self, and_false, false_and, if_true, if_false, reduceIte]; omega)) ?_
          refine f_aload_n hZ dX2_advance_101 rfl ?_
          refine vX2_95 hZ dX2_advance_102 (t_X2_takeNumber h8 (by show 0 ≤ a17 ∧ a17 < a95; omega) (by show a95 ≤ 160; omega) (fun j j0 j1 => by rw [up_ne (by decide), up_ne (by decide)]; exact hX3 j j0 j1)) (fun M102 h102 => ?_)
          refine f_goto (tgt := 137) hZ dX2_advance_105 rfl ?_
          exact f_retV hZ hR dX2_advance_137 rfl (by first | exact Or.inr ⟨h8, adv_word ⟨by omega, by omega⟩ h17 (by omega) (by omega) h67 h74⟩ | exact Or.inr ⟨h8, adv_num ⟨by omega, by omega⟩ h17 (by omega) (by omega) (by omega) h95 h102⟩ | exact Or.inr ⟨h8, adv_sign ⟨by omega, by omega⟩ h17 h8 (by omega) (by omega) (by omega) (by omega)⟩ | exact Or.inr ⟨h8, adv_bad ⟨hn.1, hn.2.1⟩ h17 h8 (by omega) (by omega) (by omega) (by omega)⟩)
      · refine f_aload_n hZ dX2_advance_59 rfl ?_
        refine f_aload_n hZ dX2_advance_60 rfl ?_
        refine f_aload_n hZ dX2_advance_61 rfl ?_
        refine gX2_18 hZ dX2_advance_62 (fun r62 => ?_)
        try simp only [up_app, Nat.reduceEqDiff, Int.reduceEq, and_true, true_and, and_self, and_false, false_and, if_true, if_false, reduceIte] at r62 ⊢
        refine f_bipush hZ dX2_advance_65 ?_
        refine vX2_82 hZ dX2_advance_67 (t_X2_behind_97 (f := a17) (by simp only [up_app, Nat.reduceEqDiff, Int.reduceEq, and_true, true_and, and_self, and_false, false_and, if_true, if_false, reduceIte]; omega) (by simp only [up_app, Nat.reduceEqDiff, Int.reduceEq, and_true, true_and, and_self, and_false, false_and, if_true, if_false, reduceIte]; omega)) (fun a67 M67 r67 h67 => ?_)
        obtain ⟨e67, h67⟩ := h67
        replace e67 := e67.symm
        subst e67
        rw [up_ne (show (20 : Nat) ≠ 37 by decide)] at h67
        replace h67 : a67 = bhd 1 (M 20) (M 37 2) a17 := h67
        have hX := bhd_rg (q := 1) (B := M 20) (n := M 37 2) (i := a17) hA2
        rw [← h67] at hX
        have hX1 := hX.1
        have hX2 := hX.2.1
        have hX3 := hX.2.2.1
        clear hX
        have hXs : a17 < a67 := by
          have g1 : bhd 1 (M 20) (M 37 2) a17 = bhd 1 (M 20) (M 37 2) (a17 + 1) := bhd_step (by omega) (show bLt (M 20 a17) by omega)
          have g2 := (bhd_rg (q := 1) (B := M 20) (n := M 37 2) (i := a17 + 1) (by omega)).1
          omega
        refine pX2_21 hZ dX2_advance_70 (by first | omega | (simp only [up_app, Nat.reduceEqDiff, Int.reduceEq, and_true, true_and, and_self, and_false, false_and, if_true, if_false, reduceIte]; omega)) ?_
        refine f_aload_n hZ dX2_advance_73 rfl ?_
        refine vX2_89 hZ dX2_advance_74 (t_X2_takeWord h8 (by show 0 ≤ a17 ∧ a17 ≤ a67 ∧ a67 ≤ 160; omega)) (fun M74 h74 => ?_)
        refine f_goto (tgt := 137) hZ dX2_advance_77 rfl ?_
        exact f_retV hZ hR dX2_advance_137 rfl (by first | exact Or.inr ⟨h8, adv_word ⟨by omega, by omega⟩ h17 (by omega) (by omega) h67 h74⟩ | exact Or.inr ⟨h8, adv_num ⟨by omega, by omega⟩ h17 (by omega) (by omega) (by omega) h95 h102⟩ | exact Or.inr ⟨h8, adv_sign ⟨by omega, by omega⟩ h17 h8 (by omega) (by omega) (by omega) (by omega)⟩ | exact Or.inr ⟨h8, adv_bad ⟨hn.1, hn.2.1⟩ h17 h8 (by omega) (by omega) (by omega) (by omega)⟩)
    · refine f_aload_n hZ dX2_advance_34 rfl ?_
      refine f_sipush hZ dX2_advance_35 ?_
      refine pX2_24 hZ dX2_advance_38 (by first | omega | (simp only [up_app, Nat.reduceEqDiff, Int.reduceEq, and_true, true_and, and_self, and_false, false_and, if_true, if_false, reduceIte]; omega)) ?_
      exact f_retV hZ hR dX2_advance_41 rfl (by exact Or.inr ⟨h8, adv_end ⟨hn.1, hn.2.1⟩ h17 h8 (by omega)⟩)
  · exact f_retV hZ hR dX2_advance_8 rfl (by exact Or.inl ⟨by omega, rfl⟩)

