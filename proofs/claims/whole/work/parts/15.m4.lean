/-! burning, wick by wick -/
def burnE (K N P L : Int → Int) (dmp n i : Int) : Int := min (P i) (fastZ (K i) (N i) (L i) dmp * n)
def burnP (K N P L : Int → Int) (dmp n i : Int) : Int := if 0 < L i then P i - burnE K N P L dmp n i else P i
def burnB (K N P L B : Int → Int) (dmp n i : Int) : Int := if 0 < L i then min 999 (B i + burnE K N P L dmp n i) else B i
def burnL (K N P L : Int → Int) (dmp n i : Int) : Int := if 0 < L i ∧ P i - burnE K N P L dmp n i = 0 then 0 else L i
def burnO (K N P L : Int → Int) (dmp n i : Int) : Int := if 0 < L i ∧ P i - burnE K N P L dmp n i = 0 then 1 else 0
def burnG (cp cl cb : Nat) (K N P L B : Int → Int) (dmp n k : Int) (M : fM) : fM := fun c i => if 0 ≤ i ∧ i < k then (if c = cp then burnP K N P L dmp n i else if c = cl then burnL K N P L dmp n i else if c = cb then burnB K N P L B dmp n i else M c i) else M c i
section
variable {cp cl cb c : Nat} {K N P L B : Int → Int} {dmp n k w i : Int} {M : fM}
theorem burnG_0 : burnG cp cl cb K N P L B dmp n 0 M = M := by funext c i; unfold burnG; rw [if_neg (by omega)]
theorem burnG_ge (h : k ≤ i) : burnG cp cl cb K N P L B dmp n k M c i = M c i := by unfold burnG; rw [if_neg (by omega)]
theorem burnG_w : burnG cp cl cb K N P L B dmp n w M c w = M c w := burnG_ge (by omega)
theorem burnG_ne (h : c ≠ cp ∧ c ≠ cl ∧ c ≠ cb) : burnG cp cl cb K N P L B dmp n k M c i = M c i := by
  unfold burnG; rw [if_neg h.1, if_neg h.2.1, if_neg h.2.2]; split <;> rfl
theorem up_id {v : Int} (h : M c i = v) : up M c i v = M := by
  funext c' i'; unfold up; split
  · next q => rw [q.1, q.2, h]
  · rfl
theorem burnG_step (h0 : 0 ≤ w) (h1 : cp ≠ cl) (h2 : cp ≠ cb) (h3 : cl ≠ cb) : up (up (up (burnG cp cl cb K N P L B dmp n w M) cp w (burnP K N P L dmp n w)) cb w (burnB K N P L B dmp n w)) cl w (burnL K N P L dmp n w) = burnG cp cl cb K N P L B dmp n (w + 1) M := by
  funext c i
  simp only [up_app]
  by_cases hi : i = w
  · subst hi
    unfold burnG
    rw [if_pos (show 0 ≤ i ∧ i < i + 1 by omega), if_neg (show ¬ (0 ≤ i ∧ i < i) by omega)]
    by_cases e1 : c = cp
    · subst e1; simp [h1, h2]
    · by_cases e2 : c = cl
      · subst e2; simp [e1]
      · by_cases e3 : c = cb
        · subst e3; simp [e1, e2]
        · simp [e1, e2, e3]
  · simp only [hi, and_false, if_false]
    unfold burnG
    by_cases h : 0 ≤ i ∧ i < w
    · rw [if_pos h, if_pos (show 0 ≤ i ∧ i < w + 1 by omega)]
    · rw [if_neg h, if_neg (show ¬ (0 ≤ i ∧ i < w + 1) by omega)]
theorem burnG_a (h0 : 0 ≤ w) (h1 : cp ≠ cl) (h2 : cp ≠ cb) (h3 : cl ≠ cb) (e1 : M cp = P) (e2 : M cl = L) (e3 : M cb = B) (hL : ¬ 0 < L w) : burnG cp cl cb K N P L B dmp n w M = burnG cp cl cb K N P L B dmp n (w + 1) M := by
  rw [← burnG_step h0 h1 h2 h3]
  have hp : burnP K N P L dmp n w = P w := if_neg hL
  have hb : burnB K N P L B dmp n w = B w := if_neg hL
  have hl : burnL K N P L dmp n w = L w := if_neg (fun q => hL q.1)
  rw [hp, hb, hl, up_id (c := cp) (by rw [burnG_w, e1]), up_id (c := cb) (by rw [burnG_w, e3]), up_id (c := cl) (by rw [burnG_w, e2])]
theorem burnG_c (h0 : 0 ≤ w) (h1 : cp ≠ cl) (h2 : cp ≠ cb) (h3 : cl ≠ cb) {p b l : Int} (hp : p = burnP K N P L dmp n w) (hb : b = burnB K N P L B dmp n w) (hl : l = burnL K N P L dmp n w) : up (up (up (burnG cp cl cb K N P L B dmp n w M) cp w p) cb w b) cl w l = burnG cp cl cb K N P L B dmp n (w + 1) M := by
  subst hp; subst hb; subst hl; exact burnG_step h0 h1 h2 h3
theorem burnG_b (h0 : 0 ≤ w) (h1 : cp ≠ cl) (h2 : cp ≠ cb) (h3 : cl ≠ cb) (e2 : M cl = L) {p b : Int} (hp : p = burnP K N P L dmp n w) (hb : b = burnB K N P L B dmp n w) (hl : L w = burnL K N P L dmp n w) : up (up (burnG cp cl cb K N P L B dmp n w M) cp w p) cb w b = burnG cp cl cb K N P L B dmp n (w + 1) M := by
  rw [← burnG_c h0 h1 h2 h3 hp hb hl, up_id (c := cl)]
  simp only [up_app, h3, Ne.symm h1, false_and, if_false, burnG_w, e2]
end
theorem eat_rg {F n : Int} (hF : 0 ≤ F ∧ F ≤ 6) (hn : 0 ≤ n ∧ n ≤ 250) : 0 ≤ F * n ∧ F * n ≤ 1500 := by
  refine ⟨Int.mul_nonneg hF.1 hn.1, ?_⟩
  have h1 : F * n ≤ 6 * n := Int.mul_le_mul_of_nonneg_right hF.2 hn.1
  omega
abbrev bMm (M : fM) (n k : Int) : fM := burnG 65 66 67 (M 63) (M 64) (M 65) (M 66) (M 67) (M 59 13) n k M
abbrev bOm (M : fM) (n : Int) : Int → Int := burnO (M 63) (M 64) (M 65) (M 66) (M 59 13) n
theorem bMm_59 {M : fM} {n k i : Int} : bMm M n k 59 i = M 59 i := burnG_ne (by decide)
theorem bMm_63 {M : fM} {n k i : Int} : bMm M n k 63 i = M 63 i := burnG_ne (by decide)
theorem bMm_64 {M : fM} {n k i : Int} : bMm M n k 64 i = M 64 i := burnG_ne (by decide)
set_option maxRecDepth 20000 in
set_option maxHeartbeats 4000000 in
theorem t_X7_burns {X : fX} {M : fM} {d : Nat} {n : Int} (hnn : 0 ≤ n ∧ n ≤ 250) (hW : WfM M) : fC X (d + 1) mX7_burns [.ref (xa X 59), .int (iv n)] M (QI fun r M' => r = sumZ (bOm M n) (M 59 12) ∧ M' = up (bMm M n (M 59 12)) 59 14 (min 9999 (M 59 14 + n))) := by
  obtain ⟨hn, hdm, hmo, hA⟩ := hW
  refine fC.of (L := [_, _, _, _, _, _]) (by decide +kernel) rfl (Nat.le_of_ble_eq_true rfl) (fun Z hZ hR => ?_)
  have hO : ∀ w, 0 ≤ w → w ≤ M 59 12 → 0 ≤ sumZ (bOm M n) w ∧ sumZ (bOm M n) w ≤ 4 := fun w h0 h1 => by
    have := sumZ_bd (f := bOm M n) (a := 0) (b := 1) (by omega) (by omega) h0 (fun i _ _ => by unfold bOm burnO; split <;> omega)
    omega
  have loop : ∀ (m : Nat) (w : Int), 0 ≤ w → w + m = M 59 12 → fG X mX7_burns Z 4 [.ref (xa X 59), .int (iv n), .int (iv (sumZ (bOm M n) w)), .int (iv w), .null, .null] [] (bMm M n w) := by
    intro m
    induction m with
    | zero =>
      intro w h0 hw
      have hOw := hO w h0 (by omega)
      refine f_iload_n hZ dX7_burns_4 rfl ?_
      refine f_aload_n hZ dX7_burns_5 rfl ?_
      refine gX7_110 hZ dX7_burns_6 (fun r6 => ?_)
      try simp only [burnG_w, bMm_59, bMm_63, bMm_64, up_app, Nat.reduceEqDiff, Int.reduceEq, and_true, true_and, and_self, and_false, false_and, if_true, if_false, reduceIte] at r6 ⊢
      refine f_ige (tgt := 122) hZ dX7_burns_9 rfl (by omega) (by omega) (fun h9 => ?_) (fun h9 => ?_)
      · refine f_aload_n hZ dX7_burns_122 rfl ?_
        refine f_aload_n hZ dX7_burns_123 rfl ?_
        refine gX7_136 hZ dX7_burns_124 (fun r124 => ?_)
        try simp only [burnG_w, bMm_59, bMm_63, bMm_64, up_app, Nat.reduceEqDiff, Int.reduceEq, and_true, true_and, and_self, and_false, false_and, if_true, if_false, reduceIte] at r124 ⊢
        refine f_iload_n hZ dX7_burns_127 rfl ?_
        refine f_iadd hZ dX7_burns_128 ?_
        refine f_iconst hZ dX7_burns_129 ?_
        refine f_sipush hZ dX7_burns_130 ?_
        refine sX7_272 hZ dX7_burns_133 (t_X7_within (by omega) (by omega) (by omega)) (fun a133 M133 r133 h133 => ?_)
        obtain ⟨e133, h133⟩ := h133
        replace e133 := e133.symm
        subst e133
        refine pX7_136 hZ dX7_burns_136 (by omega) ?_
        refine f_iload_n hZ dX7_burns_139 rfl ?_
        have hwe : w = M 59 12 := by omega
        subst hwe
        exact f_retI hZ hR dX7_burns_140 rfl (by omega) (by refine ⟨rfl, ?_⟩; rw [show a133 = min 9999 (M 59 14 + n) by omega])
      · exfalso; omega
    | succ m ih =>
      intro w h0 hw
      have hOw := hO w h0 (by omega)
      refine f_iload_n hZ dX7_burns_4 rfl ?_
      refine f_aload_n hZ dX7_burns_5 rfl ?_
      refine gX7_110 hZ dX7_burns_6 (fun r6 => ?_)
      try simp only [burnG_w, bMm_59, bMm_63, bMm_64, up_app, Nat.reduceEqDiff, Int.reduceEq, and_true, true_and, and_self, and_false, false_and, if_true, if_false, reduceIte] at r6 ⊢
      refine f_ige (tgt := 122) hZ dX7_burns_9 rfl (by omega) (by omega) (fun h9 => ?_) (fun h9 => ?_)
      · exfalso; omega
      · have hq := hA w (by omega) (by omega)
        refine f_aload_n hZ dX7_burns_12 rfl ?_
        refine gX7_32 hZ dX7_burns_13 ?_
        refine f_iload_n hZ dX7_burns_16 rfl ?_
        refine f_iaload hZ dX7_burns_17 (by first | rfl | exact hC.t1 | exact hC.t2 | exact hC.t3 | exact hC.t4 | exact hC.t5) (by first | rfl | exact hC.l1 | exact hC.l2 | exact hC.l3 | exact hC.l4 | exact hC.l5) (by omega) (by omega) (fun r17 => ?_)
        try simp only [burnG_w, bMm_59, bMm_63, bMm_64, up_app, Nat.reduceEqDiff, Int.reduceEq, and_true, true_and, and_self, and_false, false_and, if_true, if_false, reduceIte] at r17 ⊢
        refine f_le (tgt := 116) hZ dX7_burns_18 rfl (by omega) (fun h18 => ?_) (fun h18 => ?_)
        · refine f_iinc (L' := [_, _, _, _, _, _]) hZ dX7_burns_116 rfl rfl ?_
          refine f_goto (tgt := 4) hZ dX7_burns_119 rfl ?_
          refine f_forget (L' := [_, _, _, _, .null, .null]) ⟨Or.inl rfl, Or.inl rfl, Or.inl rfl, Or.inl rfl, Or.inr rfl, Or.inr rfl, trivial⟩ ?_
          have hh := ih (w + 1) (by omega) (by omega)
          rw [sumZ_succ _ (by omega)] at hh
          first
            | (rw [show bOm M n w = 0 from if_neg (by unfold burnE; omega), Int.add_zero] at hh; refine f_eqM ?_ hh; first | exact burnG_a (by omega) (by decide) (by decide) (by decide) rfl rfl rfl (by omega) | exact burnG_b (by omega) (by decide) (by decide) (by decide) rfl (by unfold burnP burnE; rw [if_pos (by omega)]; omega) (by unfold burnB burnE; rw [if_pos (by omega)]; omega) (by unfold burnL burnE; rw [if_neg (by omega)]))
            | (rw [show bOm M n w = 1 from if_pos (by unfold burnE; omega)] at hh; exact f_eqM (burnG_c (by omega) (by decide) (by decide) (by decide) (by unfold burnP burnE; rw [if_pos (by omega)]; omega) (by unfold burnB burnE; rw [if_pos (by omega)]; omega) (by unfold burnL burnE; rw [if_pos (by omega)])) hh)
        · refine f_aload_n hZ dX7_burns_21 rfl ?_
          refine f_iload_n hZ dX7_burns_22 rfl ?_
          refine f_aload_n hZ dX7_burns_23 rfl ?_
          refine gX7_32 hZ dX7_burns_24 ?_
          refine f_iload_n hZ dX7_burns_27 rfl ?_
          refine f_iaload hZ dX7_burns_28 (by first | rfl | exact hC.t1 | exact hC.t2 | exact hC.t3 | exact hC.t4 | exact hC.t5) (by first | rfl | exact hC.l1 | exact hC.l2 | exact hC.l3 | exact hC.l4 | exact hC.l5) (by omega) (by omega) (fun r28 => ?_)
          try simp only [burnG_w, bMm_59, bMm_63, bMm_64, up_app, Nat.reduceEqDiff, Int.reduceEq, and_true, true_and, and_self, and_false, false_and, if_true, if_false, reduceIte] at r28 ⊢
          refine f_aload_n hZ dX7_burns_29 rfl ?_
          refine gX7_133 hZ dX7_burns_30 (fun r30 => ?_)
          try simp only [burnG_w, bMm_59, bMm_63, bMm_64, up_app, Nat.reduceEqDiff, Int.reduceEq, and_true, true_and, and_self, and_false, false_and, if_true, if_false, reduceIte] at r30 ⊢
          refine vX7_145 hZ dX7_burns_33 (t_X7_fast (by omega) (by simp only [burnG_w, bMm_59, bMm_63, bMm_64, up_app, Nat.reduceEqDiff, Int.reduceEq, and_true, true_and, and_self, and_false, false_and, if_true, if_false, reduceIte]; omega) (by simp only [burnG_w, bMm_59, bMm_63, bMm_64, up_app, Nat.reduceEqDiff, Int.reduceEq, and_true, true_and, and_self, and_false, false_and, if_true, if_false, reduceIte]; omega) (by omega) (by omega)) (fun a33 M33 r33 h33 => ?_)
          obtain ⟨rfl, rfl⟩ := h33
          try simp only [burnG_w, bMm_59, bMm_63, bMm_64, up_app, Nat.reduceEqDiff, Int.reduceEq, and_true, true_and, and_self, and_false, false_and, if_true, if_false, reduceIte]
          have hF := fastZ_rg (k := M 63 w) (n := M 64 w) (l := M 66 w) (by omega) (by omega) hdm
          have hE := eat_rg (F := fastZ (M 63 w) (M 64 w) (M 66 w) (M 59 13)) (by omega) hnn
          refine f_iload_n hZ dX7_burns_36 rfl ?_
          refine f_imul hZ dX7_burns_37 ?_
          refine f_nm (fun b4 eb4 => ?_)
          refine f_istore (L' := [_, _, _, _, _, _]) hZ dX7_burns_38 rfl rfl ?_
          refine f_iload hZ dX7_burns_40 rfl ?_
          refine f_aload_n hZ dX7_burns_42 rfl ?_
          refine gX7_29 hZ dX7_burns_43 ?_
          refine f_iload_n hZ dX7_burns_46 rfl ?_
          refine f_iaload hZ dX7_burns_47 (by first | rfl | exact hC.t1 | exact hC.t2 | exact hC.t3 | exact hC.t4 | exact hC.t5) (by first | rfl | exact hC.l1 | exact hC.l2 | exact hC.l3 | exact hC.l4 | exact hC.l5) (by omega) (by omega) (fun r47 => ?_)
          try simp only [burnG_w, bMm_59, bMm_63, bMm_64, up_app, Nat.reduceEqDiff, Int.reduceEq, and_true, true_and, and_self, and_false, false_and, if_true, if_false, reduceIte] at r47 ⊢
          refine f_ige (tgt := 56) hZ dX7_burns_48 rfl (by omega) (by omega) (fun h48 => ?_) (fun h48 => ?_)
          · refine f_aload_n hZ dX7_burns_56 rfl ?_
            refine gX7_29 hZ dX7_burns_57 ?_
            refine f_iload_n hZ dX7_burns_60 rfl ?_
            refine f_iaload hZ dX7_burns_61 (by first | rfl | exact hC.t1 | exact hC.t2 | exact hC.t3 | exact hC.t4 | exact hC.t5) (by first | rfl | exact hC.l1 | exact hC.l2 | exact hC.l3 | exact hC.l4 | exact hC.l5) (by omega) (by omega) (fun r61 => ?_)
            try simp only [burnG_w, bMm_59, bMm_63, bMm_64, up_app, Nat.reduceEqDiff, Int.reduceEq, and_true, true_and, and_self, and_false, false_and, if_true, if_false, reduceIte] at r61 ⊢
            refine f_nm (fun b5 eb5 => ?_)
            refine f_istore (L' := [_, _, _, _, _, _]) hZ dX7_burns_62 rfl rfl ?_
            refine f_aload_n hZ dX7_burns_64 rfl ?_
            refine gX7_29 hZ dX7_burns_65 ?_
            refine f_iload_n hZ dX7_burns_68 rfl ?_
            refine f_dup2 hZ dX7_burns_69 rfl rfl ?_
            refine f_iaload hZ dX7_burns_70 (by first | rfl | exact hC.t1 | exact hC.t2 | exact hC.t3 | exact hC.t4 | exact hC.t5) (by first | rfl | exact hC.l1 | exact hC.l2 | exact hC.l3 | exact hC.l4 | exact hC.l5) (by omega) (by omega) (fun r70 => ?_)
            try simp only [burnG_w, bMm_59, bMm_63, bMm_64, up_app, Nat.reduceEqDiff, Int.reduceEq, and_true, true_and, and_self, and_false, false_and, if_true, if_false, reduceIte] at r70 ⊢
            refine f_iload hZ dX7_burns_71 rfl ?_
            refine f_isub hZ dX7_burns_73 ?_
            refine f_iastore hZ dX7_burns_74 (by first | rfl | exact hC.t1 | exact hC.t2 | exact hC.t3 | exact hC.t4 | exact hC.t5) (by first | rfl | exact hC.l1 | exact hC.l2 | exact hC.l3 | exact hC.l4 | exact hC.l5) (by omega) (by omega) (by omega) ?_
            refine f_aload_n hZ dX7_burns_75 rfl ?_
            refine gX7_35 hZ dX7_burns_76 ?_
            refine f_iload_n hZ dX7_burns_79 rfl ?_
            refine f_aload_n hZ dX7_burns_80 rfl ?_
            refine gX7_35 hZ dX7_burns_81 ?_
            refine f_iload_n hZ dX7_burns_84 rfl ?_
            refine f_iaload hZ dX7_burns_85 (by first | rfl | exact hC.t1 | exact hC.t2 | exact hC.t3 | exact hC.t4 | exact hC.t5) (by first | rfl | exact hC.l1 | exact hC.l2 | exact hC.l3 | exact hC.l4 | exact hC.l5) (by omega) (by omega) (fun r85 => ?_)
            try simp only [burnG_w, bMm_59, bMm_63, bMm_64, up_app, Nat.reduceEqDiff, Int.reduceEq, and_true, true_and, and_self, and_false, false_and, if_true, if_false, reduceIte] at r85 ⊢
            refine f_iload hZ dX7_burns_86 rfl ?_
            refine f_iadd hZ dX7_burns_88 ?_
            refine f_iconst hZ dX7_burns_89 ?_
            refine f_sipush hZ dX7_burns_90 ?_
            refine sX7_272 hZ dX7_burns_93 (t_X7_within (by omega) (by omega) (by omega)) (fun a93 M93 r93 h93 => ?_)
            obtain ⟨e93, h93⟩ := h93
            replace e93 := e93.symm
            subst e93
            refine f_iastore hZ dX7_burns_96 (by first | rfl | exact hC.t1 | exact hC.t2 | exact hC.t3 | exact hC.t4 | exact hC.t5) (by first | rfl | exact hC.l1 | exact hC.l2 | exact hC.l3 | exact hC.l4 | exact hC.l5) (by omega) (by omega) (by omega) ?_
            refine f_aload_n hZ dX7_burns_97 rfl ?_
            refine gX7_29 hZ dX7_burns_98 ?_
            refine f_iload_n hZ dX7_burns_101 rfl ?_
            refine f_iaload hZ dX7_burns_102 (by first | rfl | exact hC.t1 | exact hC.t2 | exact hC.t3 | exact hC.t4 | exact hC.t5) (by first | rfl | exact hC.l1 | exact hC.l2 | exact hC.l3 | exact hC.l4 | exact hC.l5) (by omega) (by omega) (fun r102 => ?_)
            try simp only [burnG_w, bMm_59, bMm_63, bMm_64, up_app, Nat.reduceEqDiff, Int.reduceEq, and_true, true_and, and_self, and_false, false_and, if_true, if_false, reduceIte] at r102 ⊢
            refine f_ne (tgt := 116) hZ dX7_burns_103 rfl (by omega) (fun h103 => ?_) (fun h103 => ?_)
            · refine f_iinc (L' := [_, _, _, _, _, _]) hZ dX7_burns_116 rfl rfl ?_
              refine f_goto (tgt := 4) hZ dX7_burns_119 rfl ?_
              refine f_forget (L' := [_, _, _, _, .null, .null]) ⟨Or.inl rfl, Or.inl rfl, Or.inl rfl, Or.inl rfl, Or.inr rfl, Or.inr rfl, trivial⟩ ?_
              have hh := ih (w + 1) (by omega) (by omega)
              rw [sumZ_succ _ (by omega)] at hh
              first
                | (rw [show bOm M n w = 0 from if_neg (by unfold burnE; omega), Int.add_zero] at hh; refine f_eqM ?_ hh; first | exact burnG_a (by omega) (by decide) (by decide) (by decide) rfl rfl rfl (by omega) | exact burnG_b (by omega) (by decide) (by decide) (by decide) rfl (by unfold burnP burnE; rw [if_pos (by omega)]; omega) (by unfold burnB burnE; rw [if_pos (by omega)]; omega) (by unfold burnL burnE; rw [if_neg (by omega)]))
                | (rw [show bOm M n w = 1 from if_pos (by unfold burnE; omega)] at hh; exact f_eqM (burnG_c (by omega) (by decide) (by decide) (by decide) (by unfold burnP burnE; rw [if_pos (by omega)]; omega) (by unfold burnB burnE; rw [if_pos (by omega)]; omega) (by unfold burnL burnE; rw [if_pos (by omega)])) hh)
            · refine f_aload_n hZ dX7_burns_106 rfl ?_
              refine gX7_32 hZ dX7_burns_107 ?_
              refine f_iload_n hZ dX7_burns_110 rfl ?_
              refine f_iconst hZ dX7_burns_111 ?_
              refine f_iastore hZ dX7_burns_112 (by first | rfl | exact hC.t1 | exact hC.t2 | exact hC.t3 | exact hC.t4 | exact hC.t5) (by first | rfl | exact hC.l1 | exact hC.l2 | exact hC.l3 | exact hC.l4 | exact hC.l5) (by omega) (by omega) (by omega) ?_
              refine f_iinc (L' := [_, _, _, _, _, _]) hZ dX7_burns_113 rfl rfl ?_
              refine f_iinc (L' := [_, _, _, _, _, _]) hZ dX7_burns_116 rfl rfl ?_
              refine f_goto (tgt := 4) hZ dX7_burns_119 rfl ?_
              refine f_forget (L' := [_, _, _, _, .null, .null]) ⟨Or.inl rfl, Or.inl rfl, Or.inl rfl, Or.inl rfl, Or.inr rfl, Or.inr rfl, trivial⟩ ?_
              have hh := ih (w + 1) (by omega) (by omega)
              rw [sumZ_succ _ (by omega)] at hh
              first
                | (rw [show bOm M n w = 0 from if_neg (by unfold burnE; omega), Int.add_zero] at hh; refine f_eqM ?_ hh; first | exact burnG_a (by omega) (by decide) (by decide) (by decide) rfl rfl rfl (by omega) | exact burnG_b (by omega) (by decide) (by decide) (by decide) rfl (by unfold burnP burnE; rw [if_pos (by omega)]; omega) (by unfold burnB burnE; rw [if_pos (by omega)]; omega) (by unfold burnL burnE; rw [if_neg (by omega)]))
                | (rw [show bOm M n w = 1 from if_pos (by unfold burnE; omega)] at hh; exact f_eqM (burnG_c (by omega) (by decide) (by decide) (by decide) (by unfold burnP burnE; rw [if_pos (by omega)]; omega) (by unfold burnB burnE; rw [if_pos (by omega)]; omega) (by unfold burnL burnE; rw [if_pos (by omega)])) hh)
          · refine f_iload hZ dX7_burns_51 rfl ?_
            refine f_goto (tgt := 62) hZ dX7_burns_53 rfl ?_
            refine f_nm (fun b5 eb5 => ?_)
            refine f_istore (L' := [_, _, _, _, _, _]) hZ dX7_burns_62 rfl rfl ?_
            refine f_aload_n hZ dX7_burns_64 rfl ?_
            refine gX7_29 hZ dX7_burns_65 ?_
            refine f_iload_n hZ dX7_burns_68 rfl ?_
            refine f_dup2 hZ dX7_burns_69 rfl rfl ?_
            refine f_iaload hZ dX7_burns_70 (by first | rfl | exact hC.t1 | exact hC.t2 | exact hC.t3 | exact hC.t4 | exact hC.t5) (by first | rfl | exact hC.l1 | exact hC.l2 | exact hC.l3 | exact hC.l4 | exact hC.l5) (by omega) (by omega) (fun r70 => ?_)
            try simp only [burnG_w, bMm_59, bMm_63, bMm_64, up_app, Nat.reduceEqDiff, Int.reduceEq, and_true, true_and, and_self, and_false, false_and, if_true, if_false, reduceIte] at r70 ⊢
            refine f_iload hZ dX7_burns_71 rfl ?_
            refine f_isub hZ dX7_burns_73 ?_
            refine f_iastore hZ dX7_burns_74 (by first | rfl | exact hC.t1 | exact hC.t2 | exact hC.t3 | exact hC.t4 | exact hC.t5) (by first | rfl | exact hC.l1 | exact hC.l2 | exact hC.l3 | exact hC.l4 | exact hC.l5) (by omega) (by omega) (by omega) ?_
            refine f_aload_n hZ dX7_burns_75 rfl ?_
            refine gX7_35 hZ dX7_burns_76 ?_
            refine f_iload_n hZ dX7_burns_79 rfl ?_
            refine f_aload_n hZ dX7_burns_80 rfl ?_
            refine gX7_35 hZ dX7_burns_81 ?_
            refine f_iload_n hZ dX7_burns_84 rfl ?_
            refine f_iaload hZ dX7_burns_85 (by first | rfl | exact hC.t1 | exact hC.t2 | exact hC.t3 | exact hC.t4 | exact hC.t5) (by first | rfl | exact hC.l1 | exact hC.l2 | exact hC.l3 | exact hC.l4 | exact hC.l5) (by omega) (by omega) (fun r85 => ?_)
            try simp only [burnG_w, bMm_59, bMm_63, bMm_64, up_app, Nat.reduceEqDiff, Int.reduceEq, and_true, true_and, and_self, and_false, false_and, if_true, if_false, reduceIte] at r85 ⊢
            refine f_iload hZ dX7_burns_86 rfl ?_
            refine f_iadd hZ dX7_burns_88 ?_
            refine f_iconst hZ dX7_burns_89 ?_
            refine f_sipush hZ dX7_burns_90 ?_
            refine sX7_272 hZ dX7_burns_93 (t_X7_within (by omega) (by omega) (by omega)) (fun a93 M93 r93 h93 => ?_)
            obtain ⟨e93, h93⟩ := h93
            replace e93 := e93.symm
            subst e93
            refine f_iastore hZ dX7_burns_96 (by first | rfl | exact hC.t1 | exact hC.t2 | exact hC.t3 | exact hC.t4 | exact hC.t5) (by first | rfl | exact hC.l1 | exact hC.l2 | exact hC.l3 | exact hC.l4 | exact hC.l5) (by omega) (by omega) (by omega) ?_
            refine f_aload_n hZ dX7_burns_97 rfl ?_
            refine gX7_29 hZ dX7_burns_98 ?_
            refine f_iload_n hZ dX7_burns_101 rfl ?_
            refine f_iaload hZ dX7_burns_102 (by first | rfl | exact hC.t1 | exact hC.t2 | exact hC.t3 | exact hC.t4 | exact hC.t5) (by first | rfl | exact hC.l1 | exact hC.l2 | exact hC.l3 | exact hC.l4 | exact hC.l5) (by omega) (by omega) (fun r102 => ?_)
            try simp only [burnG_w, bMm_59, bMm_63, bMm_64, up_app, Nat.reduceEqDiff, Int.reduceEq, and_true, true_and, and_self, and_false, false_and, if_true, if_false, reduceIte] at r102 ⊢
            refine f_ne (tgt := 116) hZ dX7_burns_103 rfl (by omega) (fun h103 => ?_) (fun h103 => ?_)
            · refine f_iinc (L' := [_, _, _, _, _, _]) hZ dX7_burns_116 rfl rfl ?_
              refine f_goto (tgt := 4) hZ dX7_burns_119 rfl ?_
              refine f_forget (L' := [_, _, _, _, .null, .null]) ⟨Or.inl rfl, Or.inl rfl, Or.inl rfl, Or.inl rfl, Or.inr rfl, Or.inr rfl, trivial⟩ ?_
              have hh := ih (w + 1) (by omega) (by omega)
              rw [sumZ_succ _ (by omega)] at hh
              first
                | (rw [show bOm M n w = 0 from if_neg (by unfold burnE; omega), Int.add_zero] at hh; refine f_eqM ?_ hh; first | exact burnG_a (by omega) (by decide) (by decide) (by decide) rfl rfl rfl (by omega) | exact burnG_b (by omega) (by decide) (by decide) (by decide) rfl (by unfold burnP burnE; rw [if_pos (by omega)]; omega) (by unfold burnB burnE; rw [if_pos (by omega)]; omega) (by unfold burnL burnE; rw [if_neg (by omega)]))
                | (rw [show bOm M n w = 1 from if_pos (by unfold burnE; omega)] at hh; exact f_eqM (burnG_c (by omega) (by decide) (by decide) (by decide) (by unfold burnP burnE; rw [if_pos (by omega)]; omega) (by unfold burnB burnE; rw [if_pos (by omega)]; omega) (by unfold burnL burnE; rw [if_pos (by omega)])) hh)
            · refine f_aload_n hZ dX7_burns_106 rfl ?_
              refine gX7_32 hZ dX7_burns_107 ?_
              refine f_iload_n hZ dX7_burns_110 rfl ?_
              refine f_iconst hZ dX7_burns_111 ?_
              refine f_iastore hZ dX7_burns_112 (by first | rfl | exact hC.t1 | exact hC.t2 | exact hC.t3 | exact hC.t4 | exact hC.t5) (by first | rfl | exact hC.l1 | exact hC.l2 | exact hC.l3 | exact hC.l4 | exact hC.l5) (by omega) (by omega) (by omega) ?_
              refine f_iinc (L' := [_, _, _, _, _, _]) hZ dX7_burns_113 rfl rfl ?_
              refine f_iinc (L' := [_, _, _, _, _, _]) hZ dX7_burns_116 rfl rfl ?_
              refine f_goto (tgt := 4) hZ dX7_burns_119 rfl ?_
              refine f_forget (L' := [_, _, _, _, .null, .null]) ⟨Or.inl rfl, Or.inl rfl, Or.inl rfl, Or.inl rfl, Or.inr rfl, Or.inr rfl, trivial⟩ ?_
              have hh := ih (w + 1) (by omega) (by omega)
              rw [sumZ_succ _ (by omega)] at hh
              first
                | (rw [show bOm M n w = 0 from if_neg (by unfold burnE; omega), Int.add_zero] at hh; refine f_eqM ?_ hh; first | exact burnG_a (by omega) (by decide) (by decide) (by decide) rfl rfl rfl (by omega) | exact burnG_b (by omega) (by decide) (by decide) (by decide) rfl (by unfold burnP burnE; rw [if_pos (by omega)]; omega) (by unfold burnB burnE; rw [if_pos (by omega)]; omega) (by unfold burnL burnE; rw [if_neg (by omega)]))
                | (rw [show bOm M n w = 1 from if_pos (by unfold burnE; omega)] at hh; exact f_eqM (burnG_c (by omega) (by decide) (by decide) (by decide) (by unfold burnP burnE; rw [if_pos (by omega)]; omega) (by unfold burnB burnE; rw [if_pos (by omega)]; omega) (by unfold burnL burnE; rw [if_pos (by omega)])) hh)
  refine f_iconst hZ dX7_burns_0 ?_
  refine f_istore_n (L' := [_, _, _, _, _, _]) hZ dX7_burns_1 rfl rfl ?_
  refine f_iconst hZ dX7_burns_2 ?_
  refine f_istore_n (L' := [_, _, _, _, _, _]) hZ dX7_burns_3 rfl rfl ?_
  have hh := loop (M 59 12).toNat 0 (by omega) (by omega)
  rw [sumZ_0, show bMm M n 0 = M from burnG_0] at hh
  exact hh

set_option maxRecDepth 20000 in
set_option maxHeartbeats 4000000 in
theorem t_X7_burn {X : fX} {M : fM} {d : Nat} {n : Int} (hr : rg n) (hW : WfM M) : fC X (d + 2) mX7_burn [.ref (xa X 59), .int (iv n)] M (QI fun r M' => (¬ (0 ≤ n ∧ n ≤ 250) ∧ r = -2 ∧ M' = M) ∨ ((0 ≤ n ∧ n ≤ 250) ∧ r = sumZ (bOm M n) (M 59 12) ∧ M' = up (bMm M n (M 59 12)) 59 14 (min 9999 (M 59 14 + n)))) := by
  refine fC.of (L := [_, _]) (by decide +kernel) rfl (Nat.le_of_ble_eq_true rfl) (fun Z hZ hR => ?_)
  refine f_iload_n hZ dX7_burn_0 rfl ?_
  refine f_i2l hZ dX7_burn_1 (by omega) ?_
  refine f_lconst0 hZ dX7_burn_2 ?_
  refine f_ldc2 (v := (250 : Int64)) hZ (250) dX7_burn_3 (tb_in 1130 (by decide +kernel) (by decide +kernel)) (by decide) ?_
  refine sX7_113 hZ dX7_burn_6 (t_X7_in (by omega) (by omega) (by omega)) (fun a6 M6 r6 h6 => ?_)
  obtain ⟨e6, h6⟩ := h6
  replace e6 := e6.symm
  subst e6
  refine f_eq (tgt := 20) hZ dX7_burn_9 rfl (by omega) (fun h9 => ?_) (fun h9 => ?_)
  · refine f_bipush hZ dX7_burn_20 ?_
    exact f_retI hZ hR dX7_burn_22 rfl (by omega) (by first | exact Or.inl ⟨by omega, rfl, rfl⟩ | exact Or.inr ⟨by omega, rfl, rfl⟩)
  · refine f_aload_n hZ dX7_burn_12 rfl ?_
    refine f_iload_n hZ dX7_burn_13 rfl ?_
    refine vX7_280 hZ dX7_burn_14 (t_X7_burns (by omega) hW) (fun a14 M14 r14 h14 => ?_)
    obtain ⟨rfl, rfl⟩ := h14
    refine f_goto (tgt := 22) hZ dX7_burn_17 rfl ?_
    exact f_retI hZ hR dX7_burn_22 rfl (by omega) (by first | exact Or.inl ⟨by omega, rfl, rfl⟩ | exact Or.inr ⟨by omega, rfl, rfl⟩)

def lastZ (P F : Int) : Int := (P + F - 1).tdiv F
def outZ (n : Int) (K N P L : Int → Int) (dmp w : Int) : Int := if ¬ (0 ≤ w ∧ w < n) then -2 else if L w = 0 then -1 else lastZ (P w) (fastZ (K w) (N w) (L w) dmp)
set_option maxRecDepth 20000 in
set_option maxHeartbeats 4000000 in
theorem t_X7_out {X : fX} {M : fM} {d : Nat} {w : Int} (hw : rg w) (hW : WfM M) : fC X (d + 2) mX7_out [.ref (xa X 59), .int (iv w)] M (QI fun r M' => M' = M ∧ r = outZ (M 59 12) (M 63) (M 64) (M 65) (M 66) (M 59 13) w) := by
  refine fC.of (L := [_, _]) (by decide +kernel) rfl (Nat.le_of_ble_eq_true rfl) (fun Z hZ hR => ?_)
  obtain ⟨hn, hdm, hmo, hA⟩ := hW
  refine f_aload_n hZ dX7_out_0 rfl ?_
  refine f_iload_n hZ dX7_out_1 rfl ?_
  refine vX7_123 hZ dX7_out_2 (t_X7_isWick (by omega) hn) (fun a2 M2 r2 h2 => ?_)
  obtain ⟨e2, h2⟩ := h2
  replace e2 := e2.symm
  subst e2
  refine f_ne (tgt := 11) hZ dX7_out_5 rfl (by omega) (fun h5 => ?_) (fun h5 => ?_)
  · have hq := hA w (by omega) (by omega)
    refine f_aload_n hZ dX7_out_11 rfl ?_
    refine gX7_32 hZ dX7_out_12 ?_
    refine f_iload_n hZ dX7_out_15 rfl ?_
    refine f_iaload hZ dX7_out_16 (by first | rfl | exact hC.t1 | exact hC.t2 | exact hC.t3 | exact hC.t4 | exact hC.t5) (by first | rfl | exact hC.l1 | exact hC.l2 | exact hC.l3 | exact hC.l4 | exact hC.l5) (by omega) (by omega) (fun r16 => ?_)
    refine f_ne (tgt := 24) hZ dX7_out_17 rfl (by omega) (fun h17 => ?_) (fun h17 => ?_)
    · refine f_aload_n hZ dX7_out_24 rfl ?_
      refine gX7_29 hZ dX7_out_25 ?_
      refine f_iload_n hZ dX7_out_28 rfl ?_
      refine f_iaload hZ dX7_out_29 (by first | rfl | exact hC.t1 | exact hC.t2 | exact hC.t3 | exact hC.t4 | exact hC.t5) (by first | rfl | exact hC.l1 | exact hC.l2 | exact hC.l3 | exact hC.l4 | exact hC.l5) (by omega) (by omega) (fun r29 => ?_)
      refine f_aload_n hZ dX7_out_30 rfl ?_
      refine f_iload_n hZ dX7_out_31 rfl ?_
      refine f_aload_n hZ dX7_out_32 rfl ?_
      refine gX7_32 hZ dX7_out_33 ?_
      refine f_iload_n hZ dX7_out_36 rfl ?_
      refine f_iaload hZ dX7_out_37 (by first | rfl | exact hC.t1 | exact hC.t2 | exact hC.t3 | exact hC.t4 | exact hC.t5) (by first | rfl | exact hC.l1 | exact hC.l2 | exact hC.l3 | exact hC.l4 | exact hC.l5) (by omega) (by omega) (fun r37 => ?_)
      refine f_aload_n hZ dX7_out_38 rfl ?_
      refine gX7_133 hZ dX7_out_39 (fun r39 => ?_)
      refine vX7_145 hZ dX7_out_42 (t_X7_fast (by omega) (by omega) (by omega) (by omega) (by omega)) (fun a42 M42 r42 h42 => ?_)
      obtain ⟨e42, h42⟩ := h42
      replace e42 := e42.symm
      subst e42
      subst h42
      have hF := fastZ_rg (k := M 63 w) (n := M 64 w) (l := M 66 w) (by omega) (by omega) hdm
      refine sX7_283 hZ dX7_out_45 (t_X7_until (by omega) (by omega)) (fun a45 M45 r45 h45 => ?_)
      obtain ⟨e45, h45⟩ := h45
      replace e45 := e45.symm
      subst e45
      subst h45
      exact f_retI hZ hR dX7_out_48 rfl (by omega) (by first | exact ⟨rfl, by unfold outZ; rw [if_pos (by omega)]⟩ | exact ⟨rfl, by unfold outZ; rw [if_neg (by omega), if_pos (by omega)]⟩ | exact ⟨rfl, by unfold outZ; rw [if_neg (by omega), if_neg (by omega)]; rfl⟩)
    · refine f_iconst hZ dX7_out_20 ?_
      refine f_goto (tgt := 48) hZ dX7_out_21 rfl ?_
      exact f_retI hZ hR dX7_out_48 rfl (by omega) (by first | exact ⟨rfl, by unfold outZ; rw [if_pos (by omega)]⟩ | exact ⟨rfl, by unfold outZ; rw [if_neg (by omega), if_pos (by omega)]⟩ | exact ⟨rfl, by unfold outZ; rw [if_neg (by omega), if_neg (by omega)]; rfl⟩)
  · refine f_bipush hZ dX7_out_8 ?_
    exact f_retI hZ hR dX7_out_10 rfl (by omega) (by first | exact ⟨rfl, by unfold outZ; rw [if_pos (by omega)]⟩ | exact ⟨rfl, by unfold outZ; rw [if_neg (by omega), if_pos (by omega)]⟩ | exact ⟨rfl, by unfold outZ; rw [if_neg (by omega), if_neg (by omega)]; rfl⟩)

def setOk (n q of v : Int) : Prop := (0 ≤ q ∧ q ≤ 5) ∧ (q < 4 → 0 ≤ of ∧ of < n) ∧ 0 ≤ v ∧ v ≤ (if q = 0 then 99 else if q = 1 then 2 else if q = 2 then 999 else if q = 5 then 9999 else 9)
def setMm (M : fM) (q of v : Int) : fM := if q = 0 then up (up M 65 of v) 66 of (if v = 0 then 0 else M 66 of) else if q = 1 then up M 66 of v else if q = 2 then up M 67 of v else if q = 3 then up M 64 of v else if q = 4 then up M 59 13 v else up M 59 14 v
def setR (N P L B : Int → Int) (dmp mom q of : Int) : Int := if q = 0 then P of else if q = 1 then L of else if q = 2 then B of else if q = 3 then N of else if q = 4 then dmp else mom
set_option maxRecDepth 20000 in
set_option maxHeartbeats 4000000 in
theorem t_X7_set {X : fX} {M : fM} {d : Nat} {q of v : Int} (hq : rg q) (ho : rg of) (hv : rg v) (hn : 0 ≤ M 59 12 ∧ M 59 12 ≤ 4) : fC X (d + 2) mX7_set [.ref (xa X 59), .int (iv q), .int (iv of), .int (iv v)] M (QI fun r M' => (¬ setOk (M 59 12) q of v ∧ r = -2 ∧ M' = M) ∨ (setOk (M 59 12) q of v ∧ (q = 1 ∧ 0 < v ∧ M 65 of = 0) ∧ r = -3 ∧ M' = M) ∨ (setOk (M 59 12) q of v ∧ ¬ (q = 1 ∧ 0 < v ∧ M 65 of = 0) ∧ r = setR (M 64) (M 65) (M 66) (M 67) (M 59 13) (M 59 14) q of ∧ M' = setMm M q of v)) := by
  refine fC.of (L := [_, _, _, _, _]) (by decide +kernel) rfl (Nat.le_of_ble_eq_true rfl) (fun Z hZ hR => ?_)
  rcases (show (q < 0 ∨ 5 < q) ∨ q = 0 ∨ q = 1 ∨ q = 2 ∨ q = 3 ∨ q = 4 ∨ q = 5 by omega) with hqq | rfl | rfl | rfl | rfl | rfl | rfl
  · refine f_iload_n hZ dX7_set_0 rfl ?_
    refine f_i2l hZ dX7_set_1 (by omega) ?_
    refine f_lconst0 hZ dX7_set_2 ?_
    refine f_ldc2 (v := (5 : Int64)) hZ (5) dX7_set_3 (tb_in 1004 (by decide +kernel) (by decide +kernel)) (by decide) ?_
    refine sX7_113 hZ dX7_set_6 (t_X7_in (by omega) (by omega) (by omega)) (fun a6 M6 r6 h6 => ?_)
    obtain ⟨e6, h6⟩ := h6
    replace e6 := e6.symm
    subst e6
    refine f_eq (tgt := 80) hZ dX7_set_9 rfl (by omega) (fun h9 => ?_) (fun h9 => ?_)
    · refine f_bipush hZ dX7_set_80 ?_
      exact f_retI hZ hR dX7_set_82 rfl (by omega) (by exact Or.inl ⟨fun hs => by have := hs.1; omega, rfl, rfl⟩)
    · exfalso; omega
  · have hok : setOk (M 59 12) 0 of v = ((0 ≤ (0 : Int) ∧ (0 : Int) ≤ 5) ∧ ((0 : Int) < 4 → 0 ≤ of ∧ of < M 59 12) ∧ 0 ≤ v ∧ v ≤ 99) := rfl
    refine f_iload_n hZ dX7_set_0 rfl ?_
    refine f_i2l hZ dX7_set_1 (by omega) ?_
    refine f_lconst0 hZ dX7_set_2 ?_
    refine f_ldc2 (v := (5 : Int64)) hZ (5) dX7_set_3 (tb_in 1004 (by decide +kernel) (by decide +kernel)) (by decide) ?_
    refine sX7_113 hZ dX7_set_6 (t_X7_in (by omega) (by omega) (by omega)) (fun a6 M6 r6 h6 => ?_)
    obtain ⟨e6, h6⟩ := h6
    replace e6 := e6.symm
    subst e6
    refine f_eq (tgt := 80) hZ dX7_set_9 rfl (by omega) (fun h9 => ?_) (fun h9 => ?_)
    · refine f_bipush hZ dX7_set_80 ?_
      exact f_retI hZ hR dX7_set_82 rfl (by omega) (by first | exact Or.inl ⟨by rw [hok]; omega, rfl, rfl⟩ | exact Or.inr (Or.inl ⟨by rw [hok]; omega, by omega, rfl, rfl⟩) | (refine Or.inr (Or.inr ⟨by rw [hok]; omega, by omega, rfl, ?_⟩); first | rfl | (show _ = up (up M 65 of v) 66 of (if v = 0 then 0 else M 66 of); first | rw [if_pos (by omega)] | rw [if_neg (by omega)])))
    · refine f_iload_n hZ dX7_set_12 rfl ?_
      refine f_iconst hZ dX7_set_13 ?_
      refine f_ige (tgt := 25) hZ dX7_set_14 rfl (by omega) (by omega) (fun h14 => ?_) (fun h14 => ?_)
      · exfalso; omega
      · refine f_aload_n hZ dX7_set_17 rfl ?_
        refine f_iload_n hZ dX7_set_18 rfl ?_
        refine vX7_123 hZ dX7_set_19 (t_X7_isWick (by omega) hn) (fun a19 M19 r19 h19 => ?_)
        obtain ⟨e19, h19⟩ := h19
        replace e19 := e19.symm
        subst e19
        refine f_eq (tgt := 80) hZ dX7_set_22 rfl (by omega) (fun h22 => ?_) (fun h22 => ?_)
        · refine f_bipush hZ dX7_set_80 ?_
          exact f_retI hZ hR dX7_set_82 rfl (by omega) (by first | exact Or.inl ⟨by rw [hok]; omega, rfl, rfl⟩ | exact Or.inr (Or.inl ⟨by rw [hok]; omega, by omega, rfl, rfl⟩) | (refine Or.inr (Or.inr ⟨by rw [hok]; omega, by omega, rfl, ?_⟩); first | rfl | (show _ = up (up M 65 of v) 66 of (if v = 0 then 0 else M 66 of); first | rw [if_pos (by omega)] | rw [if_neg (by omega)])))
        · refine f_iload_n hZ dX7_set_25 rfl ?_
          refine f_i2l hZ dX7_set_26 (by omega) ?_
          refine f_lconst0 hZ dX7_set_27 ?_
          refine f_iload_n hZ dX7_set_28 rfl ?_
          refine f_ne (tgt := 38) hZ dX7_set_29 rfl (by omega) (fun h29 => ?_) (fun h29 => ?_)
          · exfalso; omega
          · refine f_ldc2 (v := (99 : Int64)) hZ (99) dX7_set_32 (tb_in 1009 (by decide +kernel) (by decide +kernel)) (by decide) ?_
            refine f_goto (tgt := 74) hZ dX7_set_35 rfl ?_
            refine sX7_113 hZ dX7_set_74 (t_X7_in (by omega) (by omega) (by omega)) (fun a74 M74 r74 h74 => ?_)
            obtain ⟨e74, h74⟩ := h74
            replace e74 := e74.symm
            subst e74
            refine f_ne (tgt := 83) hZ dX7_set_77 rfl (by omega) (fun h77 => ?_) (fun h77 => ?_)
            · refine f_iload_n hZ dX7_set_83 rfl ?_
              refine f_iconst hZ dX7_set_84 ?_
              refine f_ine (tgt := 104) hZ dX7_set_85 rfl (by omega) (by omega) (fun h85 => ?_) (fun h85 => ?_)
              · refine f_iload_n hZ dX7_set_104 rfl ?_
                refine f_ne (tgt := 117) hZ dX7_set_105 rfl (by omega) (fun h105 => ?_) (fun h105 => ?_)
                · exfalso; omega
                · refine f_aload_n hZ dX7_set_108 rfl ?_
                  refine gX7_29 hZ dX7_set_109 ?_
                  refine f_iload_n hZ dX7_set_112 rfl ?_
                  refine f_iaload hZ dX7_set_113 (by first | rfl | exact hC.t1 | exact hC.t2 | exact hC.t3 | exact hC.t4 | exact hC.t5) (by first | rfl | exact hC.l1 | exact hC.l2 | exact hC.l3 | exact hC.l4 | exact hC.l5) (by omega) (by omega) (fun r113 => ?_)
                  refine f_goto (tgt := 175) hZ dX7_set_114 rfl ?_
                  refine f_istore (L' := [_, _, _, _, _]) hZ dX7_set_175 rfl rfl ?_
                  refine f_iload_n hZ dX7_set_177 rfl ?_
                  refine f_ne (tgt := 211) hZ dX7_set_178 rfl (by omega) (fun h178 => ?_) (fun h178 => ?_)
                  · exfalso; omega
                  · refine f_aload_n hZ dX7_set_181 rfl ?_
                    refine gX7_29 hZ dX7_set_182 ?_
                    refine f_iload_n hZ dX7_set_185 rfl ?_
                    refine f_iload_n hZ dX7_set_186 rfl ?_
                    refine f_iastore hZ dX7_set_187 (by first | rfl | exact hC.t1 | exact hC.t2 | exact hC.t3 | exact hC.t4 | exact hC.t5) (by first | rfl | exact hC.l1 | exact hC.l2 | exact hC.l3 | exact hC.l4 | exact hC.l5) (by omega) (by omega) (by omega) ?_
                    refine f_aload_n hZ dX7_set_188 rfl ?_
                    refine gX7_32 hZ dX7_set_189 ?_
                    refine f_iload_n hZ dX7_set_192 rfl ?_
                    refine f_iload_n hZ dX7_set_193 rfl ?_
                    refine f_ne (tgt := 201) hZ dX7_set_194 rfl (by omega) (fun h194 => ?_) (fun h194 => ?_)
                    · refine f_aload_n hZ dX7_set_201 rfl ?_
                      refine gX7_32 hZ dX7_set_202 ?_
                      refine f_iload_n hZ dX7_set_205 rfl ?_
                      refine f_iaload hZ dX7_set_206 (by first | rfl | exact hC.t1 | exact hC.t2 | exact hC.t3 | exact hC.t4 | exact hC.t5) (by first | rfl | exact hC.l1 | exact hC.l2 | exact hC.l3 | exact hC.l4 | exact hC.l5) (by omega) (by omega) (fun r206 => ?_)
                      try simp only [up_app, Nat.reduceEqDiff, Nat.reduceEqDiff, Int.reduceEq, and_true, true_and, and_false, false_and, if_true, if_false, reduceIte] at r206 ⊢
                      refine f_iastore hZ dX7_set_207 (by first | rfl | exact hC.t1 | exact hC.t2 | exact hC.t3 | exact hC.t4 | exact hC.t5) (by first | rfl | exact hC.l1 | exact hC.l2 | exact hC.l3 | exact hC.l4 | exact hC.l5) (by omega) (by omega) (by omega) ?_
                      refine f_goto (tgt := 274) hZ dX7_set_208 rfl ?_
                      refine f_iload hZ dX7_set_274 rfl ?_
                      exact f_retI hZ hR dX7_set_276 rfl (by omega) (by first | exact Or.inl ⟨by rw [hok]; omega, rfl, rfl⟩ | exact Or.inr (Or.inl ⟨by rw [hok]; omega, by omega, rfl, rfl⟩) | (refine Or.inr (Or.inr ⟨by rw [hok]; omega, by omega, rfl, ?_⟩); first | rfl | (show _ = up (up M 65 of v) 66 of (if v = 0 then 0 else M 66 of); first | rw [if_pos (by omega)] | rw [if_neg (by omega)])))
                    · refine f_iconst hZ dX7_set_197 ?_
                      refine f_goto (tgt := 207) hZ dX7_set_198 rfl ?_
                      refine f_iastore hZ dX7_set_207 (by first | rfl | exact hC.t1 | exact hC.t2 | exact hC.t3 | exact hC.t4 | exact hC.t5) (by first | rfl | exact hC.l1 | exact hC.l2 | exact hC.l3 | exact hC.l4 | exact hC.l5) (by omega) (by omega) (by omega) ?_
                      refine f_goto (tgt := 274) hZ dX7_set_208 rfl ?_
                      refine f_iload hZ dX7_set_274 rfl ?_
                      exact f_retI hZ hR dX7_set_276 rfl (by omega) (by first | exact Or.inl ⟨by rw [hok]; omega, rfl, rfl⟩ | exact Or.inr (Or.inl ⟨by rw [hok]; omega, by omega, rfl, rfl⟩) | (refine Or.inr (Or.inr ⟨by rw [hok]; omega, by omega, rfl, ?_⟩); first | rfl | (show _ = up (up M 65 of v) 66 of (if v = 0 then 0 else M 66 of); first | rw [if_pos (by omega)] | rw [if_neg (by omega)])))
              · exfalso; omega
            · refine f_bipush hZ dX7_set_80 ?_
              exact f_retI hZ hR dX7_set_82 rfl (by omega) (by first | exact Or.inl ⟨by rw [hok]; omega, rfl, rfl⟩ | exact Or.inr (Or.inl ⟨by rw [hok]; omega, by omega, rfl, rfl⟩) | (refine Or.inr (Or.inr ⟨by rw [hok]; omega, by omega, rfl, ?_⟩); first | rfl | (show _ = up (up M 65 of v) 66 of (if v = 0 then 0 else M 66 of); first | rw [if_pos (by omega)] | rw [if_neg (by omega)])))
  · have hok : setOk (M 59 12) 1 of v = ((0 ≤ (1 : Int) ∧ (1 : Int) ≤ 5) ∧ ((1 : Int) < 4 → 0 ≤ of ∧ of < M 59 12) ∧ 0 ≤ v ∧ v ≤ 2) := rfl
    refine f_iload_n hZ dX7_set_0 rfl ?_
    refine f_i2l hZ dX7_set_1 (by omega) ?_
    refine f_lconst0 hZ dX7_set_2 ?_
    refine f_ldc2 (v := (5 : Int64)) hZ (5) dX7_set_3 (tb_in 1004 (by decide +kernel) (by decide +kernel)) (by decide) ?_
    refine sX7_113 hZ dX7_set_6 (t_X7_in (by omega) (by omega) (by omega)) (fun a6 M6 r6 h6 => ?_)
    obtain ⟨e6, h6⟩ := h6
    replace e6 := e6.symm
    subst e6
    refine f_eq (tgt := 80) hZ dX7_set_9 rfl (by omega) (fun h9 => ?_) (fun h9 => ?_)
    · refine f_bipush hZ dX7_set_80 ?_
      exact f_retI hZ hR dX7_set_82 rfl (by omega) (by first | exact Or.inl ⟨by rw [hok]; omega, rfl, rfl⟩ | exact Or.inr (Or.inl ⟨by rw [hok]; omega, by omega, rfl, rfl⟩) | (refine Or.inr (Or.inr ⟨by rw [hok]; omega, by omega, rfl, ?_⟩); first | rfl | (show _ = up (up M 65 of v) 66 of (if v = 0 then 0 else M 66 of); first | rw [if_pos (by omega)] | rw [if_neg (by omega)])))
    · refine f_iload_n hZ dX7_set_12 rfl ?_
      refine f_iconst hZ dX7_set_13 ?_
      refine f_ige (tgt := 25) hZ dX7_set_14 rfl (by omega) (by omega) (fun h14 => ?_) (fun h14 => ?_)
      · exfalso; omega
      · refine f_aload_n hZ dX7_set_17 rfl ?_
        refine f_iload_n hZ dX7_set_18 rfl ?_
        refine vX7_123 hZ dX7_set_19 (t_X7_isWick (by omega) hn) (fun a19 M19 r19 h19 => ?_)
        obtain ⟨e19, h19⟩ := h19
        replace e19 := e19.symm
        subst e19
        refine f_eq (tgt := 80) hZ dX7_set_22 rfl (by omega) (fun h22 => ?_) (fun h22 => ?_)
        · refine f_bipush hZ dX7_set_80 ?_
          exact f_retI hZ hR dX7_set_82 rfl (by omega) (by first | exact Or.inl ⟨by rw [hok]; omega, rfl, rfl⟩ | exact Or.inr (Or.inl ⟨by rw [hok]; omega, by omega, rfl, rfl⟩) | (refine Or.inr (Or.inr ⟨by rw [hok]; omega, by omega, rfl, ?_⟩); first | rfl | (show _ = up (up M 65 of v) 66 of (if v = 0 then 0 else M 66 of); first | rw [if_pos (by omega)] | rw [if_neg (by omega)])))
        · refine f_iload_n hZ dX7_set_25 rfl ?_
          refine f_i2l hZ dX7_set_26 (by omega) ?_
          refine f_lconst0 hZ dX7_set_27 ?_
          refine f_iload_n hZ dX7_set_28 rfl ?_
          refine f_ne (tgt := 38) hZ dX7_set_29 rfl (by omega) (fun h29 => ?_) (fun h29 => ?_)
          · refine f_iload_n hZ dX7_set_38 rfl ?_
            refine f_iconst hZ dX7_set_39 ?_
            refine f_ine (tgt := 49) hZ dX7_set_40 rfl (by omega) (by omega) (fun h40 => ?_) (fun h40 => ?_)
            · exfalso; omega
            · refine f_ldc2 (v := (2 : Int64)) hZ (2) dX7_set_43 (tb_in 1018 (by decide +kernel) (by decide +kernel)) (by decide) ?_
              refine f_goto (tgt := 74) hZ dX7_set_46 rfl ?_
              refine sX7_113 hZ dX7_set_74 (t_X7_in (by omega) (by omega) (by omega)) (fun a74 M74 r74 h74 => ?_)
              obtain ⟨e74, h74⟩ := h74
              replace e74 := e74.symm
              subst e74
              refine f_ne (tgt := 83) hZ dX7_set_77 rfl (by omega) (fun h77 => ?_) (fun h77 => ?_)
              · refine f_iload_n hZ dX7_set_83 rfl ?_
                refine f_iconst hZ dX7_set_84 ?_
                refine f_ine (tgt := 104) hZ dX7_set_85 rfl (by omega) (by omega) (fun h85 => ?_) (fun h85 => ?_)
                · exfalso; omega
                · refine f_iload_n hZ dX7_set_88 rfl ?_
                  refine f_le (tgt := 104) hZ dX7_set_89 rfl (by omega) (fun h89 => ?_) (fun h89 => ?_)
                  · refine f_iload_n hZ dX7_set_104 rfl ?_
                    refine f_ne (tgt := 117) hZ dX7_set_105 rfl (by omega) (fun h105 => ?_) (fun h105 => ?_)
                    · refine f_iload_n hZ dX7_set_117 rfl ?_
                      refine f_iconst hZ dX7_set_118 ?_
                      refine f_ine (tgt := 131) hZ dX7_set_119 rfl (by omega) (by omega) (fun h119 => ?_) (fun h119 => ?_)
                      · exfalso; omega
                      · refine f_aload_n hZ dX7_set_122 rfl ?_
                        refine gX7_32 hZ dX7_set_123 ?_
                        refine f_iload_n hZ dX7_set_126 rfl ?_
                        refine f_iaload hZ dX7_set_127 (by first | rfl | exact hC.t1 | exact hC.t2 | exact hC.t3 | exact hC.t4 | exact hC.t5) (by first | rfl | exact hC.l1 | exact hC.l2 | exact hC.l3 | exact hC.l4 | exact hC.l5) (by omega) (by omega) (fun r127 => ?_)
                        refine f_goto (tgt := 175) hZ dX7_set_128 rfl ?_
                        refine f_istore (L' := [_, _, _, _, _]) hZ dX7_set_175 rfl rfl ?_
                        refine f_iload_n hZ dX7_set_177 rfl ?_
                        refine f_ne (tgt := 211) hZ dX7_set_178 rfl (by omega) (fun h178 => ?_) (fun h178 => ?_)
                        · refine f_iload_n hZ dX7_set_211 rfl ?_
                          refine f_iconst hZ dX7_set_212 ?_
                          refine f_ine (tgt := 226) hZ dX7_set_213 rfl (by omega) (by omega) (fun h213 => ?_) (fun h213 => ?_)
                          · exfalso; omega
                          · refine f_aload_n hZ dX7_set_216 rfl ?_
                            refine gX7_32 hZ dX7_set_217 ?_
                            refine f_iload_n hZ dX7_set_220 rfl ?_
                            refine f_iload_n hZ dX7_set_221 rfl ?_
                            refine f_iastore hZ dX7_set_222 (by first | rfl | exact hC.t1 | exact hC.t2 | exact hC.t3 | exact hC.t4 | exact hC.t5) (by first | rfl | exact hC.l1 | exact hC.l2 | exact hC.l3 | exact hC.l4 | exact hC.l5) (by omega) (by omega) (by omega) ?_
                            refine f_goto (tgt := 274) hZ dX7_set_223 rfl ?_
                            refine f_iload hZ dX7_set_274 rfl ?_
                            exact f_retI hZ hR dX7_set_276 rfl (by omega) (by first | exact Or.inl ⟨by rw [hok]; omega, rfl, rfl⟩ | exact Or.inr (Or.inl ⟨by rw [hok]; omega, by omega, rfl, rfl⟩) | (refine Or.inr (Or.inr ⟨by rw [hok]; omega, by omega, rfl, ?_⟩); first | rfl | (show _ = up (up M 65 of v) 66 of (if v = 0 then 0 else M 66 of); first | rw [if_pos (by omega)] | rw [if_neg (by omega)])))
                        · exfalso; omega
                    · exfalso; omega
                  · refine f_aload_n hZ dX7_set_92 rfl ?_
                    refine gX7_29 hZ dX7_set_93 ?_
                    refine f_iload_n hZ dX7_set_96 rfl ?_
                    refine f_iaload hZ dX7_set_97 (by first | rfl | exact hC.t1 | exact hC.t2 | exact hC.t3 | exact hC.t4 | exact hC.t5) (by first | rfl | exact hC.l1 | exact hC.l2 | exact hC.l3 | exact hC.l4 | exact hC.l5) (by omega) (by omega) (fun r97 => ?_)
                    refine f_ne (tgt := 104) hZ dX7_set_98 rfl (by omega) (fun h98 => ?_) (fun h98 => ?_)
                    · refine f_iload_n hZ dX7_set_104 rfl ?_
                      refine f_ne (tgt := 117) hZ dX7_set_105 rfl (by omega) (fun h105 => ?_) (fun h105 => ?_)
                      · refine f_iload_n hZ dX7_set_117 rfl ?_
                        refine f_iconst hZ dX7_set_118 ?_
                        refine f_ine (tgt := 131) hZ dX7_set_119 rfl (by omega) (by omega) (fun h119 => ?_) (fun h119 => ?_)
                        · exfalso; omega
                        · refine f_aload_n hZ dX7_set_122 rfl ?_
                          refine gX7_32 hZ dX7_set_123 ?_
                          refine f_iload_n hZ dX7_set_126 rfl ?_
                          refine f_iaload hZ dX7_set_127 (by first | rfl | exact hC.t1 | exact hC.t2 | exact hC.t3 | exact hC.t4 | exact hC.t5) (by first | rfl | exact hC.l1 | exact hC.l2 | exact hC.l3 | exact hC.l4 | exact hC.l5) (by omega) (by omega) (fun r127 => ?_)
                          refine f_goto (tgt := 175) hZ dX7_set_128 rfl ?_
                          refine f_istore (L' := [_, _, _, _, _]) hZ dX7_set_175 rfl rfl ?_
                          refine f_iload_n hZ dX7_set_177 rfl ?_
                          refine f_ne (tgt := 211) hZ dX7_set_178 rfl (by omega) (fun h178 => ?_) (fun h178 => ?_)
                          · refine f_iload_n hZ dX7_set_211 rfl ?_
                            refine f_iconst hZ dX7_set_212 ?_
                            refine f_ine (tgt := 226) hZ dX7_set_213 rfl (by omega) (by omega) (fun h213 => ?_) (fun h213 => ?_)
                            · exfalso; omega
                            · refine f_aload_n hZ dX7_set_216 rfl ?_
                              refine gX7_32 hZ dX7_set_217 ?_
                              refine f_iload_n hZ dX7_set_220 rfl ?_
                              refine f_iload_n hZ dX7_set_221 rfl ?_
                              refine f_iastore hZ dX7_set_222 (by first | rfl | exact hC.t1 | exact hC.t2 | exact hC.t3 | exact hC.t4 | exact hC.t5) (by first | rfl | exact hC.l1 | exact hC.l2 | exact hC.l3 | exact hC.l4 | exact hC.l5) (by omega) (by omega) (by omega) ?_
                              refine f_goto (tgt := 274) hZ dX7_set_223 rfl ?_
                              refine f_iload hZ dX7_set_274 rfl ?_
                              exact f_retI hZ hR dX7_set_276 rfl (by omega) (by first | exact Or.inl ⟨by rw [hok]; omega, rfl, rfl⟩ | exact Or.inr (Or.inl ⟨by rw [hok]; omega, by omega, rfl, rfl⟩) | (refine Or.inr (Or.inr ⟨by rw [hok]; omega, by omega, rfl, ?_⟩); first | rfl | (show _ = up (up M 65 of v) 66 of (if v = 0 then 0 else M 66 of); first | rw [if_pos (by omega)] | rw [if_neg (by omega)])))
                          · exfalso; omega
                      · exfalso; omega
                    · refine f_bipush hZ dX7_set_101 ?_
                      exact f_retI hZ hR dX7_set_103 rfl (by omega) (by first | exact Or.inl ⟨by rw [hok]; omega, rfl, rfl⟩ | exact Or.inr (Or.inl ⟨by rw [hok]; omega, by omega, rfl, rfl⟩) | (refine Or.inr (Or.inr ⟨by rw [hok]; omega, by omega, rfl, ?_⟩); first | rfl | (show _ = up (up M 65 of v) 66 of (if v = 0 then 0 else M 66 of); first | rw [if_pos (by omega)] | rw [if_neg (by omega)])))
              · refine f_bipush hZ dX7_set_80 ?_
                exact f_retI hZ hR dX7_set_82 rfl (by omega) (by first | exact Or.inl ⟨by rw [hok]; omega, rfl, rfl⟩ | exact Or.inr (Or.inl ⟨by rw [hok]; omega, by omega, rfl, rfl⟩) | (refine Or.inr (Or.inr ⟨by rw [hok]; omega, by omega, rfl, ?_⟩); first | rfl | (show _ = up (up M 65 of v) 66 of (if v = 0 then 0 else M 66 of); first | rw [if_pos (by omega)] | rw [if_neg (by omega)])))
          · exfalso; omega
  · have hok : setOk (M 59 12) 2 of v = ((0 ≤ (2 : Int) ∧ (2 : Int) ≤ 5) ∧ ((2 : Int) < 4 → 0 ≤ of ∧ of < M 59 12) ∧ 0 ≤ v ∧ v ≤ 999) := rfl
    refine f_iload_n hZ dX7_set_0 rfl ?_
    refine f_i2l hZ dX7_set_1 (by omega) ?_
    refine f_lconst0 hZ dX7_set_2 ?_
    refine f_ldc2 (v := (5 : Int64)) hZ (5) dX7_set_3 (tb_in 1004 (by decide +kernel) (by decide +kernel)) (by decide) ?_
    refine sX7_113 hZ dX7_set_6 (t_X7_in (by omega) (by omega) (by omega)) (fun a6 M6 r6 h6 => ?_)
    obtain ⟨e6, h6⟩ := h6
    replace e6 := e6.symm
    subst e6
    refine f_eq (tgt := 80) hZ dX7_set_9 rfl (by omega) (fun h9 => ?_) (fun h9 => ?_)
    · refine f_bipush hZ dX7_set_80 ?_
      exact f_retI hZ hR dX7_set_82 rfl (by omega) (by first | exact Or.inl ⟨by rw [hok]; omega, rfl, rfl⟩ | exact Or.inr (Or.inl ⟨by rw [hok]; omega, by omega, rfl, rfl⟩) | (refine Or.inr (Or.inr ⟨by rw [hok]; omega, by omega, rfl, ?_⟩); first | rfl | (show _ = up (up M 65 of v) 66 of (if v = 0 then 0 else M 66 of); first | rw [if_pos (by omega)] | rw [if_neg (by omega)])))
    · refine f_iload_n hZ dX7_set_12 rfl ?_
      refine f_iconst hZ dX7_set_13 ?_
      refine f_ige (tgt := 25) hZ dX7_set_14 rfl (by omega) (by omega) (fun h14 => ?_) (fun h14 => ?_)
      · exfalso; omega
      · refine f_aload_n hZ dX7_set_17 rfl ?_
        refine f_iload_n hZ dX7_set_18 rfl ?_
        refine vX7_123 hZ dX7_set_19 (t_X7_isWick (by omega) hn) (fun a19 M19 r19 h19 => ?_)
        obtain ⟨e19, h19⟩ := h19
        replace e19 := e19.symm
        subst e19
        refine f_eq (tgt := 80) hZ dX7_set_22 rfl (by omega) (fun h22 => ?_) (fun h22 => ?_)
        · refine f_bipush hZ dX7_set_80 ?_
          exact f_retI hZ hR dX7_set_82 rfl (by omega) (by first | exact Or.inl ⟨by rw [hok]; omega, rfl, rfl⟩ | exact Or.inr (Or.inl ⟨by rw [hok]; omega, by omega, rfl, rfl⟩) | (refine Or.inr (Or.inr ⟨by rw [hok]; omega, by omega, rfl, ?_⟩); first | rfl | (show _ = up (up M 65 of v) 66 of (if v = 0 then 0 else M 66 of); first | rw [if_pos (by omega)] | rw [if_neg (by omega)])))
        · refine f_iload_n hZ dX7_set_25 rfl ?_
          refine f_i2l hZ dX7_set_26 (by omega) ?_
          refine f_lconst0 hZ dX7_set_27 ?_
          refine f_iload_n hZ dX7_set_28 rfl ?_
          refine f_ne (tgt := 38) hZ dX7_set_29 rfl (by omega) (fun h29 => ?_) (fun h29 => ?_)
          · refine f_iload_n hZ dX7_set_38 rfl ?_
            refine f_iconst hZ dX7_set_39 ?_
            refine f_ine (tgt := 49) hZ dX7_set_40 rfl (by omega) (by omega) (fun h40 => ?_) (fun h40 => ?_)
            · refine f_iload_n hZ dX7_set_49 rfl ?_
              refine f_iconst hZ dX7_set_50 ?_
              refine f_ine (tgt := 60) hZ dX7_set_51 rfl (by omega) (by omega) (fun h51 => ?_) (fun h51 => ?_)
              · exfalso; omega
              · refine f_ldc2 (v := (999 : Int64)) hZ (999) dX7_set_54 (tb_in 1019 (by decide +kernel) (by decide +kernel)) (by decide) ?_
                refine f_goto (tgt := 74) hZ dX7_set_57 rfl ?_
                refine sX7_113 hZ dX7_set_74 (t_X7_in (by omega) (by omega) (by omega)) (fun a74 M74 r74 h74 => ?_)
                obtain ⟨e74, h74⟩ := h74
                replace e74 := e74.symm
                subst e74
                refine f_ne (tgt := 83) hZ dX7_set_77 rfl (by omega) (fun h77 => ?_) (fun h77 => ?_)
                · refine f_iload_n hZ dX7_set_83 rfl ?_
                  refine f_iconst hZ dX7_set_84 ?_
                  refine f_ine (tgt := 104) hZ dX7_set_85 rfl (by omega) (by omega) (fun h85 => ?_) (fun h85 => ?_)
                  · refine f_iload_n hZ dX7_set_104 rfl ?_
                    refine f_ne (tgt := 117) hZ dX7_set_105 rfl (by omega) (fun h105 => ?_) (fun h105 => ?_)
                    · refine f_iload_n hZ dX7_set_117 rfl ?_
                      refine f_iconst hZ dX7_set_118 ?_
                      refine f_ine (tgt := 131) hZ dX7_set_119 rfl (by omega) (by omega) (fun h119 => ?_) (fun h119 => ?_)
                      · refine f_iload_n hZ dX7_set_131 rfl ?_
                        refine f_iconst hZ dX7_set_132 ?_
                        refine f_ine (tgt := 145) hZ dX7_set_133 rfl (by omega) (by omega) (fun h133 => ?_) (fun h133 => ?_)
                        · exfalso; omega
                        · refine f_aload_n hZ dX7_set_136 rfl ?_
                          refine gX7_35 hZ dX7_set_137 ?_
                          refine f_iload_n hZ dX7_set_140 rfl ?_
                          refine f_iaload hZ dX7_set_141 (by first | rfl | exact hC.t1 | exact hC.t2 | exact hC.t3 | exact hC.t4 | exact hC.t5) (by first | rfl | exact hC.l1 | exact hC.l2 | exact hC.l3 | exact hC.l4 | exact hC.l5) (by omega) (by omega) (fun r141 => ?_)
                          refine f_goto (tgt := 175) hZ dX7_set_142 rfl ?_
                          refine f_istore (L' := [_, _, _, _, _]) hZ dX7_set_175 rfl rfl ?_
                          refine f_iload_n hZ dX7_set_177 rfl ?_
                          refine f_ne (tgt := 211) hZ dX7_set_178 rfl (by omega) (fun h178 => ?_) (fun h178 => ?_)
                          · refine f_iload_n hZ dX7_set_211 rfl ?_
                            refine f_iconst hZ dX7_set_212 ?_
                            refine f_ine (tgt := 226) hZ dX7_set_213 rfl (by omega) (by omega) (fun h213 => ?_) (fun h213 => ?_)
                            · refine f_iload_n hZ dX7_set_226 rfl ?_
                              refine f_iconst hZ dX7_set_227 ?_
                              refine f_ine (tgt := 241) hZ dX7_set_228 rfl (by omega) (by omega) (fun h228 => ?_) (fun h228 => ?_)
                              · exfalso; omega
                              · refine f_aload_n hZ dX7_set_231 rfl ?_
                                refine gX7_35 hZ dX7_set_232 ?_
                                refine f_iload_n hZ dX7_set_235 rfl ?_
                                refine f_iload_n hZ dX7_set_236 rfl ?_
                                refine f_iastore hZ dX7_set_237 (by first | rfl | exact hC.t1 | exact hC.t2 | exact hC.t3 | exact hC.t4 | exact hC.t5) (by first | rfl | exact hC.l1 | exact hC.l2 | exact hC.l3 | exact hC.l4 | exact hC.l5) (by omega) (by omega) (by omega) ?_
                                refine f_goto (tgt := 274) hZ dX7_set_238 rfl ?_
                                refine f_iload hZ dX7_set_274 rfl ?_
                                exact f_retI hZ hR dX7_set_276 rfl (by omega) (by first | exact Or.inl ⟨by rw [hok]; omega, rfl, rfl⟩ | exact Or.inr (Or.inl ⟨by rw [hok]; omega, by omega, rfl, rfl⟩) | (refine Or.inr (Or.inr ⟨by rw [hok]; omega, by omega, rfl, ?_⟩); first | rfl | (show _ = up (up M 65 of v) 66 of (if v = 0 then 0 else M 66 of); first | rw [if_pos (by omega)] | rw [if_neg (by omega)])))
                            · exfalso; omega
                          · exfalso; omega
                      · exfalso; omega
                    · exfalso; omega
                  · exfalso; omega
                · refine f_bipush hZ dX7_set_80 ?_
                  exact f_retI hZ hR dX7_set_82 rfl (by omega) (by first | exact Or.inl ⟨by rw [hok]; omega, rfl, rfl⟩ | exact Or.inr (Or.inl ⟨by rw [hok]; omega, by omega, rfl, rfl⟩) | (refine Or.inr (Or.inr ⟨by rw [hok]; omega, by omega, rfl, ?_⟩); first | rfl | (show _ = up (up M 65 of v) 66 of (if v = 0 then 0 else M 66 of); first | rw [if_pos (by omega)] | rw [if_neg (by omega)])))
            · exfalso; omega
          · exfalso; omega
  · have hok : setOk (M 59 12) 3 of v = ((0 ≤ (3 : Int) ∧ (3 : Int) ≤ 5) ∧ ((3 : Int) < 4 → 0 ≤ of ∧ of < M 59 12) ∧ 0 ≤ v ∧ v ≤ 9) := rfl
    refine f_iload_n hZ dX7_set_0 rfl ?_
    refine f_i2l hZ dX7_set_1 (by omega) ?_
    refine f_lconst0 hZ dX7_set_2 ?_
    refine f_ldc2 (v := (5 : Int64)) hZ (5) dX7_set_3 (tb_in 1004 (by decide +kernel) (by decide +kernel)) (by decide) ?_
    refine sX7_113 hZ dX7_set_6 (t_X7_in (by omega) (by omega) (by omega)) (fun a6 M6 r6 h6 => ?_)
    obtain ⟨e6, h6⟩ := h6
    replace e6 := e6.symm
    subst e6
    refine f_eq (tgt := 80) hZ dX7_set_9 rfl (by omega) (fun h9 => ?_) (fun h9 => ?_)
    · refine f_bipush hZ dX7_set_80 ?_
      exact f_retI hZ hR dX7_set_82 rfl (by omega) (by first | exact Or.inl ⟨by rw [hok]; omega, rfl, rfl⟩ | exact Or.inr (Or.inl ⟨by rw [hok]; omega, by omega, rfl, rfl⟩) | (refine Or.inr (Or.inr ⟨by rw [hok]; omega, by omega, rfl, ?_⟩); first | rfl | (show _ = up (up M 65 of v) 66 of (if v = 0 then 0 else M 66 of); first | rw [if_pos (by omega)] | rw [if_neg (by omega)])))
    · refine f_iload_n hZ dX7_set_12 rfl ?_
      refine f_iconst hZ dX7_set_13 ?_
      refine f_ige (tgt := 25) hZ dX7_set_14 rfl (by omega) (by omega) (fun h14 => ?_) (fun h14 => ?_)
      · exfalso; omega
      · refine f_aload_n hZ dX7_set_17 rfl ?_
        refine f_iload_n hZ dX7_set_18 rfl ?_
        refine vX7_123 hZ dX7_set_19 (t_X7_isWick (by omega) hn) (fun a19 M19 r19 h19 => ?_)
        obtain ⟨e19, h19⟩ := h19
        replace e19 := e19.symm
        subst e19
        refine f_eq (tgt := 80) hZ dX7_set_22 rfl (by omega) (fun h22 => ?_) (fun h22 => ?_)
        · refine f_bipush hZ dX7_set_80 ?_
          exact f_retI hZ hR dX7_set_82 rfl (by omega) (by first | exact Or.inl ⟨by rw [hok]; omega, rfl, rfl⟩ | exact Or.inr (Or.inl ⟨by rw [hok]; omega, by omega, rfl, rfl⟩) | (refine Or.inr (Or.inr ⟨by rw [hok]; omega, by omega, rfl, ?_⟩); first | rfl | (show _ = up (up M 65 of v) 66 of (if v = 0 then 0 else M 66 of); first | rw [if_pos (by omega)] | rw [if_neg (by omega)])))
        · refine f_iload_n hZ dX7_set_25 rfl ?_
          refine f_i2l hZ dX7_set_26 (by omega) ?_
          refine f_lconst0 hZ dX7_set_27 ?_
          refine f_iload_n hZ dX7_set_28 rfl ?_
          refine f_ne (tgt := 38) hZ dX7_set_29 rfl (by omega) (fun h29 => ?_) (fun h29 => ?_)
          · refine f_iload_n hZ dX7_set_38 rfl ?_
            refine f_iconst hZ dX7_set_39 ?_
            refine f_ine (tgt := 49) hZ dX7_set_40 rfl (by omega) (by omega) (fun h40 => ?_) (fun h40 => ?_)
            · refine f_iload_n hZ dX7_set_49 rfl ?_
              refine f_iconst hZ dX7_set_50 ?_
              refine f_ine (tgt := 60) hZ dX7_set_51 rfl (by omega) (by omega) (fun h51 => ?_) (fun h51 => ?_)
              · refine f_iload_n hZ dX7_set_60 rfl ?_
                refine f_iconst hZ dX7_set_61 ?_
                refine f_ine (tgt := 71) hZ dX7_set_62 rfl (by omega) (by omega) (fun h62 => ?_) (fun h62 => ?_)
                · refine f_ldc2 (v := (9 : Int64)) hZ (9) dX7_set_71 (tb_in 1008 (by decide +kernel) (by decide +kernel)) (by decide) ?_
                  refine sX7_113 hZ dX7_set_74 (t_X7_in (by omega) (by omega) (by omega)) (fun a74 M74 r74 h74 => ?_)
                  obtain ⟨e74, h74⟩ := h74
                  replace e74 := e74.symm
                  subst e74
                  refine f_ne (tgt := 83) hZ dX7_set_77 rfl (by omega) (fun h77 => ?_) (fun h77 => ?_)
                  · refine f_iload_n hZ dX7_set_83 rfl ?_
                    refine f_iconst hZ dX7_set_84 ?_
                    refine f_ine (tgt := 104) hZ dX7_set_85 rfl (by omega) (by omega) (fun h85 => ?_) (fun h85 => ?_)
                    · refine f_iload_n hZ dX7_set_104 rfl ?_
                      refine f_ne (tgt := 117) hZ dX7_set_105 rfl (by omega) (fun h105 => ?_) (fun h105 => ?_)
                      · refine f_iload_n hZ dX7_set_117 rfl ?_
                        refine f_iconst hZ dX7_set_118 ?_
                        refine f_ine (tgt := 131) hZ dX7_set_119 rfl (by omega) (by omega) (fun h119 => ?_) (fun h119 => ?_)
                        · refine f_iload_n hZ dX7_set_131 rfl ?_
                          refine f_iconst hZ dX7_set_132 ?_
                          refine f_ine (tgt := 145) hZ dX7_set_133 rfl (by omega) (by omega) (fun h133 => ?_) (fun h133 => ?_)
                          · refine f_iload_n hZ dX7_set_145 rfl ?_
                            refine f_iconst hZ dX7_set_146 ?_
                            refine f_ine (tgt := 159) hZ dX7_set_147 rfl (by omega) (by omega) (fun h147 => ?_) (fun h147 => ?_)
                            · exfalso; omega
                            · refine f_aload_n hZ dX7_set_150 rfl ?_
                              refine gX7_26 hZ dX7_set_151 ?_
                              refine f_iload_n hZ dX7_set_154 rfl ?_
                              refine f_iaload hZ dX7_set_155 (by first | rfl | exact hC.t1 | exact hC.t2 | exact hC.t3 | exact hC.t4 | exact hC.t5) (by first | rfl | exact hC.l1 | exact hC.l2 | exact hC.l3 | exact hC.l4 | exact hC.l5) (by omega) (by omega) (fun r155 => ?_)
                              refine f_goto (tgt := 175) hZ dX7_set_156 rfl ?_
                              refine f_istore (L' := [_, _, _, _, _]) hZ dX7_set_175 rfl rfl ?_
                              refine f_iload_n hZ dX7_set_177 rfl ?_
                              refine f_ne (tgt := 211) hZ dX7_set_178 rfl (by omega) (fun h178 => ?_) (fun h178 => ?_)
                              · refine f_iload_n hZ dX7_set_211 rfl ?_
                                refine f_iconst hZ dX7_set_212 ?_
                                refine f_ine (tgt := 226) hZ dX7_set_213 rfl (by omega) (by omega) (fun h213 => ?_) (fun h213 => ?_)
                                · refine f_iload_n hZ dX7_set_226 rfl ?_
                                  refine f_iconst hZ dX7_set_227 ?_
                                  refine f_ine (tgt := 241) hZ dX7_set_228 rfl (by omega) (by omega) (fun h228 => ?_) (fun h228 => ?_)
                                  · refine f_iload_n hZ dX7_set_241 rfl ?_
                                    refine f_iconst hZ dX7_set_242 ?_
                                    refine f_ine (tgt := 256) hZ dX7_set_243 rfl (by omega) (by omega) (fun h243 => ?_) (fun h243 => ?_)
                                    · exfalso; omega
                                    · refine f_aload_n hZ dX7_set_246 rfl ?_
                                      refine gX7_26 hZ dX7_set_247 ?_
                                      refine f_iload_n hZ dX7_set_250 rfl ?_
                                      refine f_iload_n hZ dX7_set_251 rfl ?_
                                      refine f_iastore hZ dX7_set_252 (by first | rfl | exact hC.t1 | exact hC.t2 | exact hC.t3 | exact hC.t4 | exact hC.t5) (by first | rfl | exact hC.l1 | exact hC.l2 | exact hC.l3 | exact hC.l4 | exact hC.l5) (by omega) (by omega) (by omega) ?_
                                      refine f_goto (tgt := 274) hZ dX7_set_253 rfl ?_
                                      refine f_iload hZ dX7_set_274 rfl ?_
                                      exact f_retI hZ hR dX7_set_276 rfl (by omega) (by first | exact Or.inl ⟨by rw [hok]; omega, rfl, rfl⟩ | exact Or.inr (Or.inl ⟨by rw [hok]; omega, by omega, rfl, rfl⟩) | (refine Or.inr (Or.inr ⟨by rw [hok]; omega, by omega, rfl, ?_⟩); first | rfl | (show _ = up (up M 65 of v) 66 of (if v = 0 then 0 else M 66 of); first | rw [if_pos (by omega)] | rw [if_neg (by omega)])))
                                  · exfalso; omega
                                · exfalso; omega
                              · exfalso; omega
                          · exfalso; omega
                        · exfalso; omega
                      · exfalso; omega
                    · exfalso; omega
                  · refine f_bipush hZ dX7_set_80 ?_
                    exact f_retI hZ hR dX7_set_82 rfl (by omega) (by first | exact Or.inl ⟨by rw [hok]; omega, rfl, rfl⟩ | exact Or.inr (Or.inl ⟨by rw [hok]; omega, by omega, rfl, rfl⟩) | (refine Or.inr (Or.inr ⟨by rw [hok]; omega, by omega, rfl, ?_⟩); first | rfl | (show _ = up (up M 65 of v) 66 of (if v = 0 then 0 else M 66 of); first | rw [if_pos (by omega)] | rw [if_neg (by omega)])))
                · exfalso; omega
              · exfalso; omega
            · exfalso; omega
          · exfalso; omega
  · have hok : setOk (M 59 12) 4 of v = ((0 ≤ (4 : Int) ∧ (4 : Int) ≤ 5) ∧ ((4 : Int) < 4 → 0 ≤ of ∧ of < M 59 12) ∧ 0 ≤ v ∧ v ≤ 9) := rfl
    refine f_iload_n hZ dX7_set_0 rfl ?_
    refine f_i2l hZ dX7_set_1 (by omega) ?_
    refine f_lconst0 hZ dX7_set_2 ?_
    refine f_ldc2 (v := (5 : Int64)) hZ (5) dX7_set_3 (tb_in 1004 (by decide +kernel) (by decide +kernel)) (by decide) ?_
    refine sX7_113 hZ dX7_set_6 (t_X7_in (by omega) (by omega) (by omega)) (fun a6 M6 r6 h6 => ?_)
    obtain ⟨e6, h6⟩ := h6
    replace e6 := e6.symm
    subst e6
    refine f_eq (tgt := 80) hZ dX7_set_9 rfl (by omega) (fun h9 => ?_) (fun h9 => ?_)
    · refine f_bipush hZ dX7_set_80 ?_
      exact f_retI hZ hR dX7_set_82 rfl (by omega) (by first | exact Or.inl ⟨by rw [hok]; omega, rfl, rfl⟩ | exact Or.inr (Or.inl ⟨by rw [hok]; omega, by omega, rfl, rfl⟩) | (refine Or.inr (Or.inr ⟨by rw [hok]; omega, by omega, rfl, ?_⟩); first | rfl | (show _ = up (up M 65 of v) 66 of (if v = 0 then 0 else M 66 of); first | rw [if_pos (by omega)] | rw [if_neg (by omega)])))
    · refine f_iload_n hZ dX7_set_12 rfl ?_
      refine f_iconst hZ dX7_set_13 ?_
      refine f_ige (tgt := 25) hZ dX7_set_14 rfl (by omega) (by omega) (fun h14 => ?_) (fun h14 => ?_)
      · refine f_iload_n hZ dX7_set_25 rfl ?_
        refine f_i2l hZ dX7_set_26 (by omega) ?_
        refine f_lconst0 hZ dX7_set_27 ?_
        refine f_iload_n hZ dX7_set_28 rfl ?_
        refine f_ne (tgt := 38) hZ dX7_set_29 rfl (by omega) (fun h29 => ?_) (fun h29 => ?_)
        · refine f_iload_n hZ dX7_set_38 rfl ?_
          refine f_iconst hZ dX7_set_39 ?_
          refine f_ine (tgt := 49) hZ dX7_set_40 rfl (by omega) (by omega) (fun h40 => ?_) (fun h40 => ?_)
          · refine f_iload_n hZ dX7_set_49 rfl ?_
            refine f_iconst hZ dX7_set_50 ?_
            refine f_ine (tgt := 60) hZ dX7_set_51 rfl (by omega) (by omega) (fun h51 => ?_) (fun h51 => ?_)
            · refine f_iload_n hZ dX7_set_60 rfl ?_
              refine f_iconst hZ dX7_set_61 ?_
              refine f_ine (tgt := 71) hZ dX7_set_62 rfl (by omega) (by omega) (fun h62 => ?_) (fun h62 => ?_)
              · refine f_ldc2 (v := (9 : Int64)) hZ (9) dX7_set_71 (tb_in 1008 (by decide +kernel) (by decide +kernel)) (by decide) ?_
                refine sX7_113 hZ dX7_set_74 (t_X7_in (by omega) (by omega) (by omega)) (fun a74 M74 r74 h74 => ?_)
                obtain ⟨e74, h74⟩ := h74
                replace e74 := e74.symm
                subst e74
                refine f_ne (tgt := 83) hZ dX7_set_77 rfl (by omega) (fun h77 => ?_) (fun h77 => ?_)
                · refine f_iload_n hZ dX7_set_83 rfl ?_
                  refine f_iconst hZ dX7_set_84 ?_
                  refine f_ine (tgt := 104) hZ dX7_set_85 rfl (by omega) (by omega) (fun h85 => ?_) (fun h85 => ?_)
                  · refine f_iload_n hZ dX7_set_104 rfl ?_
                    refine f_ne (tgt := 117) hZ dX7_set_105 rfl (by omega) (fun h105 => ?_) (fun h105 => ?_)
                    · refine f_iload_n hZ dX7_set_117 rfl ?_
                      refine f_iconst hZ dX7_set_118 ?_
                      refine f_ine (tgt := 131) hZ dX7_set_119 rfl (by omega) (by omega) (fun h119 => ?_) (fun h119 => ?_)
                      · refine f_iload_n hZ dX7_set_131 rfl ?_
                        refine f_iconst hZ dX7_set_132 ?_
                        refine f_ine (tgt := 145) hZ dX7_set_133 rfl (by omega) (by omega) (fun h133 => ?_) (fun h133 => ?_)
                        · refine f_iload_n hZ dX7_set_145 rfl ?_
                          refine f_iconst hZ dX7_set_146 ?_
                          refine f_ine (tgt := 159) hZ dX7_set_147 rfl (by omega) (by omega) (fun h147 => ?_) (fun h147 => ?_)
                          · refine f_iload_n hZ dX7_set_159 rfl ?_
                            refine f_iconst hZ dX7_set_160 ?_
                            refine f_ine (tgt := 171) hZ dX7_set_161 rfl (by omega) (by omega) (fun h161 => ?_) (fun h161 => ?_)
                            · exfalso; omega
                            · refine f_aload_n hZ dX7_set_164 rfl ?_
                              refine gX7_133 hZ dX7_set_165 (fun r165 => ?_)
                              refine f_goto (tgt := 175) hZ dX7_set_168 rfl ?_
                              refine f_istore (L' := [_, _, _, _, _]) hZ dX7_set_175 rfl rfl ?_
                              refine f_iload_n hZ dX7_set_177 rfl ?_
                              refine f_ne (tgt := 211) hZ dX7_set_178 rfl (by omega) (fun h178 => ?_) (fun h178 => ?_)
                              · refine f_iload_n hZ dX7_set_211 rfl ?_
                                refine f_iconst hZ dX7_set_212 ?_
                                refine f_ine (tgt := 226) hZ dX7_set_213 rfl (by omega) (by omega) (fun h213 => ?_) (fun h213 => ?_)
                                · refine f_iload_n hZ dX7_set_226 rfl ?_
                                  refine f_iconst hZ dX7_set_227 ?_
                                  refine f_ine (tgt := 241) hZ dX7_set_228 rfl (by omega) (by omega) (fun h228 => ?_) (fun h228 => ?_)
                                  · refine f_iload_n hZ dX7_set_241 rfl ?_
                                    refine f_iconst hZ dX7_set_242 ?_
                                    refine f_ine (tgt := 256) hZ dX7_set_243 rfl (by omega) (by omega) (fun h243 => ?_) (fun h243 => ?_)
                                    · refine f_iload_n hZ dX7_set_256 rfl ?_
                                      refine f_iconst hZ dX7_set_257 ?_
                                      refine f_ine (tgt := 269) hZ dX7_set_258 rfl (by omega) (by omega) (fun h258 => ?_) (fun h258 => ?_)
                                      · exfalso; omega
                                      · refine f_aload_n hZ dX7_set_261 rfl ?_
                                        refine f_iload_n hZ dX7_set_262 rfl ?_
                                        refine pX7_133 hZ dX7_set_263 (by omega) ?_
                                        refine f_goto (tgt := 274) hZ dX7_set_266 rfl ?_
                                        refine f_iload hZ dX7_set_274 rfl ?_
                                        exact f_retI hZ hR dX7_set_276 rfl (by omega) (by first | exact Or.inl ⟨by rw [hok]; omega, rfl, rfl⟩ | exact Or.inr (Or.inl ⟨by rw [hok]; omega, by omega, rfl, rfl⟩) | (refine Or.inr (Or.inr ⟨by rw [hok]; omega, by omega, rfl, ?_⟩); first | rfl | (show _ = up (up M 65 of v) 66 of (if v = 0 then 0 else M 66 of); first | rw [if_pos (by omega)] | rw [if_neg (by omega)])))
                                    · exfalso; omega
                                  · exfalso; omega
                                · exfalso; omega
                              · exfalso; omega
                          · exfalso; omega
                        · exfalso; omega
                      · exfalso; omega
                    · exfalso; omega
                  · exfalso; omega
                · refine f_bipush hZ dX7_set_80 ?_
                  exact f_retI hZ hR dX7_set_82 rfl (by omega) (by first | exact Or.inl ⟨by rw [hok]; omega, rfl, rfl⟩ | exact Or.inr (Or.inl ⟨by rw [hok]; omega, by omega, rfl, rfl⟩) | (refine Or.inr (Or.inr ⟨by rw [hok]; omega, by omega, rfl, ?_⟩); first | rfl | (show _ = up (up M 65 of v) 66 of (if v = 0 then 0 else M 66 of); first | rw [if_pos (by omega)] | rw [if_neg (by omega)])))
              · exfalso; omega
            · exfalso; omega
          · exfalso; omega
        · exfalso; omega
      · exfalso; omega
  · have hok : setOk (M 59 12) 5 of v = ((0 ≤ (5 : Int) ∧ (5 : Int) ≤ 5) ∧ ((5 : Int) < 4 → 0 ≤ of ∧ of < M 59 12) ∧ 0 ≤ v ∧ v ≤ 9999) := rfl
    refine f_iload_n hZ dX7_set_0 rfl ?_
    refine f_i2l hZ dX7_set_1 (by omega) ?_
    refine f_lconst0 hZ dX7_set_2 ?_
    refine f_ldc2 (v := (5 : Int64)) hZ (5) dX7_set_3 (tb_in 1004 (by decide +kernel) (by decide +kernel)) (by decide) ?_
    refine sX7_113 hZ dX7_set_6 (t_X7_in (by omega) (by omega) (by omega)) (fun a6 M6 r6 h6 => ?_)
    obtain ⟨e6, h6⟩ := h6
    replace e6 := e6.symm
    subst e6
    refine f_eq (tgt := 80) hZ dX7_set_9 rfl (by omega) (fun h9 => ?_) (fun h9 => ?_)
    · refine f_bipush hZ dX7_set_80 ?_
      exact f_retI hZ hR dX7_set_82 rfl (by omega) (by first | exact Or.inl ⟨by rw [hok]; omega, rfl, rfl⟩ | exact Or.inr (Or.inl ⟨by rw [hok]; omega, by omega, rfl, rfl⟩) | (refine Or.inr (Or.inr ⟨by rw [hok]; omega, by omega, rfl, ?_⟩); first | rfl | (show _ = up (up M 65 of v) 66 of (if v = 0 then 0 else M 66 of); first | rw [if_pos (by omega)] | rw [if_neg (by omega)])))
    · refine f_iload_n hZ dX7_set_12 rfl ?_
      refine f_iconst hZ dX7_set_13 ?_
      refine f_ige (tgt := 25) hZ dX7_set_14 rfl (by omega) (by omega) (fun h14 => ?_) (fun h14 => ?_)
      · refine f_iload_n hZ dX7_set_25 rfl ?_
        refine f_i2l hZ dX7_set_26 (by omega) ?_
        refine f_lconst0 hZ dX7_set_27 ?_
        refine f_iload_n hZ dX7_set_28 rfl ?_
        refine f_ne (tgt := 38) hZ dX7_set_29 rfl (by omega) (fun h29 => ?_) (fun h29 => ?_)
        · refine f_iload_n hZ dX7_set_38 rfl ?_
          refine f_iconst hZ dX7_set_39 ?_
          refine f_ine (tgt := 49) hZ dX7_set_40 rfl (by omega) (by omega) (fun h40 => ?_) (fun h40 => ?_)
          · refine f_iload_n hZ dX7_set_49 rfl ?_
            refine f_iconst hZ dX7_set_50 ?_
            refine f_ine (tgt := 60) hZ dX7_set_51 rfl (by omega) (by omega) (fun h51 => ?_) (fun h51 => ?_)
            · refine f_iload_n hZ dX7_set_60 rfl ?_
              refine f_iconst hZ dX7_set_61 ?_
              refine f_ine (tgt := 71) hZ dX7_set_62 rfl (by omega) (by omega) (fun h62 => ?_) (fun h62 => ?_)
              · exfalso; omega
              · refine f_ldc2 (v := (9999 : Int64)) hZ (9999) dX7_set_65 (tb_in 1020 (by decide +kernel) (by decide +kernel)) (by decide) ?_
                refine f_goto (tgt := 74) hZ dX7_set_68 rfl ?_
                refine sX7_113 hZ dX7_set_74 (t_X7_in (by omega) (by omega) (by omega)) (fun a74 M74 r74 h74 => ?_)
                obtain ⟨e74, h74⟩ := h74
                replace e74 := e74.symm
                subst e74
                refine f_ne (tgt := 83) hZ dX7_set_77 rfl (by omega) (fun h77 => ?_) (fun h77 => ?_)
                · refine f_iload_n hZ dX7_set_83 rfl ?_
                  refine f_iconst hZ dX7_set_84 ?_
                  refine f_ine (tgt := 104) hZ dX7_set_85 rfl (by omega) (by omega) (fun h85 => ?_) (fun h85 => ?_)
                  · refine f_iload_n hZ dX7_set_104 rfl ?_
                    refine f_ne (tgt := 117) hZ dX7_set_105 rfl (by omega) (fun h105 => ?_) (fun h105 => ?_)
                    · refine f_iload_n hZ dX7_set_117 rfl ?_
                      refine f_iconst hZ dX7_set_118 ?_
                      refine f_ine (tgt := 131) hZ dX7_set_119 rfl (by omega) (by omega) (fun h119 => ?_) (fun h119 => ?_)
                      · refine f_iload_n hZ dX7_set_131 rfl ?_
                        refine f_iconst hZ dX7_set_132 ?_
                        refine f_ine (tgt := 145) hZ dX7_set_133 rfl (by omega) (by omega) (fun h133 => ?_) (fun h133 => ?_)
                        · refine f_iload_n hZ dX7_set_145 rfl ?_
                          refine f_iconst hZ dX7_set_146 ?_
                          refine f_ine (tgt := 159) hZ dX7_set_147 rfl (by omega) (by omega) (fun h147 => ?_) (fun h147 => ?_)
                          · refine f_iload_n hZ dX7_set_159 rfl ?_
                            refine f_iconst hZ dX7_set_160 ?_
                            refine f_ine (tgt := 171) hZ dX7_set_161 rfl (by omega) (by omega) (fun h161 => ?_) (fun h161 => ?_)
                            · refine f_aload_n hZ dX7_set_171 rfl ?_
                              refine gX7_136 hZ dX7_set_172 (fun r172 => ?_)
                              refine f_istore (L' := [_, _, _, _, _]) hZ dX7_set_175 rfl rfl ?_
                              refine f_iload_n hZ dX7_set_177 rfl ?_
                              refine f_ne (tgt := 211) hZ dX7_set_178 rfl (by omega) (fun h178 => ?_) (fun h178 => ?_)
                              · refine f_iload_n hZ dX7_set_211 rfl ?_
                                refine f_iconst hZ dX7_set_212 ?_
                                refine f_ine (tgt := 226) hZ dX7_set_213 rfl (by omega) (by omega) (fun h213 => ?_) (fun h213 => ?_)
                                · refine f_iload_n hZ dX7_set_226 rfl ?_
                                  refine f_iconst hZ dX7_set_227 ?_
                                  refine f_ine (tgt := 241) hZ dX7_set_228 rfl (by omega) (by omega) (fun h228 => ?_) (fun h228 => ?_)
                                  · refine f_iload_n hZ dX7_set_241 rfl ?_
                                    refine f_iconst hZ dX7_set_242 ?_
                                    refine f_ine (tgt := 256) hZ dX7_set_243 rfl (by omega) (by omega) (fun h243 => ?_) (fun h243 => ?_)
                                    · refine f_iload_n hZ dX7_set_256 rfl ?_
                                      refine f_iconst hZ dX7_set_257 ?_
                                      refine f_ine (tgt := 269) hZ dX7_set_258 rfl (by omega) (by omega) (fun h258 => ?_) (fun h258 => ?_)
                                      · refine f_aload_n hZ dX7_set_269 rfl ?_
                                        refine f_iload_n hZ dX7_set_270 rfl ?_
                                        refine pX7_136 hZ dX7_set_271 (by omega) ?_
                                        refine f_iload hZ dX7_set_274 rfl ?_
                                        exact f_retI hZ hR dX7_set_276 rfl (by omega) (by first | exact Or.inl ⟨by rw [hok]; omega, rfl, rfl⟩ | exact Or.inr (Or.inl ⟨by rw [hok]; omega, by omega, rfl, rfl⟩) | (refine Or.inr (Or.inr ⟨by rw [hok]; omega, by omega, rfl, ?_⟩); first | rfl | (show _ = up (up M 65 of v) 66 of (if v = 0 then 0 else M 66 of); first | rw [if_pos (by omega)] | rw [if_neg (by omega)])))
                                      · exfalso; omega
                                    · exfalso; omega
                                  · exfalso; omega
                                · exfalso; omega
                              · exfalso; omega
                            · exfalso; omega
                          · exfalso; omega
                        · exfalso; omega
                      · exfalso; omega
                    · exfalso; omega
                  · exfalso; omega
                · refine f_bipush hZ dX7_set_80 ?_
                  exact f_retI hZ hR dX7_set_82 rfl (by omega) (by first | exact Or.inl ⟨by rw [hok]; omega, rfl, rfl⟩ | exact Or.inr (Or.inl ⟨by rw [hok]; omega, by omega, rfl, rfl⟩) | (refine Or.inr (Or.inr ⟨by rw [hok]; omega, by omega, rfl, ?_⟩); first | rfl | (show _ = up (up M 65 of v) 66 of (if v = 0 then 0 else M 66 of); first | rw [if_pos (by omega)] | rw [if_neg (by omega)])))
            · exfalso; omega
          · exfalso; omega
        · exfalso; omega
      · exfalso; omega

