/-! the model's burnsOn; all lights -/
theorem t_fastR {X : fX} {M N : fM} {d : Nat} {w l e : Int} (h3 : N 63 = M 63) (h4 : N 64 = M 64) (hw : 0 ≤ w ∧ w < 4) (hk : 0 ≤ M 63 w ∧ M 63 w ≤ 5) (hu : 0 ≤ M 64 w ∧ M 64 w ≤ 9) (hl : 0 ≤ l ∧ l ≤ 2) (he : 0 ≤ e ∧ e ≤ 9) : fC X d mX7_fast [.ref (xa X 59), .int (iv w), .int (iv l), .int (iv e)] N (QI fun r M' => M' = N ∧ r = fastZ (M 63 w) (M 64 w) l e) := by
  have h := t_X7_fast (X := X) (M := N) (d := d) hw (by rw [h3]; exact hk) (by rw [h4]; exact hu) hl he
  rw [h3, h4] at h
  exact h
set_option maxRecDepth 20000 in
set_option maxHeartbeats 4000000 in
theorem t_X7_burnsOn {X : fX} {M : fM} {D : Nat} {W : Int → pV} {lv : Int} (hk : lvOk M W lv (M 59 12)) (hL : ∀ N, lvOk N W (lv + 1) 0 → N 59 12 = M 59 12 → fC X D mX7_lights [.ref (xa X 59), .int (iv (lv + 1)), .int (iv 0)] N (QV fun K => liP N W (lv + 1) 0 K)) : fC X (D + 1) mX7_burnsOn [.ref (xa X 59), .int (iv lv)] M (QV fun K => buP M W lv K) := by
  have hn := hk.1.1.1
  have hq := hk.1.2.2.1
  have hlv := hk.2.1.1
  refine fC.of (L := [_, _, _, _, _, _]) (by decide +kernel) rfl (Nat.le_of_ble_eq_true rfl) (fun Z hZ hR => ?_)
  have k89 : ∀ (T : Int), T = tmZ (mvZ M) (bs M lv) → (1 ≤ T ∧ T ≤ 99) → lv ≤ 3 → ∀ (m : Nat) (i : Int), i + m = M 59 12 → 0 ≤ i → fG X mX7_burnsOn Z 89 [.ref (xa X 59), .int (iv lv), .int (iv T), .int (iv i), .null, .null] [] (rwM M lv T i) := by
    intro T hT hTr h3 m
    induction m with
    | zero =>
      intro i him hi0
      have hi : i = M 59 12 := by omega
      subst hi
      have htm := hk.2.2.2.2.1
      have htm1 := htm.1
      have hnu := hk.2.2.2.2.2.1
      have hnu1 := hnu.1
      have hnu2 := hnu.2.1
      have hnu3 := hnu.2.2.1
      refine f_iload_n hZ dX7_burnsOn_89 rfl ?_
      refine f_aload_n hZ dX7_burnsOn_90 rfl ?_
      refine gX7_110 hZ dX7_burnsOn_91 (fun r91 => ?_)
      try simp only [rwM_c (show (59 : Nat) ≠ 68 by decide) (show (59 : Nat) ≠ 69 by decide), rwM_c (show (70 : Nat) ≠ 68 by decide) (show (70 : Nat) ≠ 69 by decide), rwM_c (show (71 : Nat) ≠ 68 by decide) (show (71 : Nat) ≠ 69 by decide), rwM_c (show (72 : Nat) ≠ 68 by decide) (show (72 : Nat) ≠ 69 by decide), up_app, Nat.reduceEqDiff, Int.reduceEq, and_true, true_and, and_self, and_false, false_and, if_true, if_false, reduceIte] at r91 ⊢
      refine f_ige (tgt := 183) hZ dX7_burnsOn_94 rfl (by first | omega | (simp only [rwM_c (show (59 : Nat) ≠ 68 by decide) (show (59 : Nat) ≠ 69 by decide), rwM_c (show (70 : Nat) ≠ 68 by decide) (show (70 : Nat) ≠ 69 by decide), rwM_c (show (71 : Nat) ≠ 68 by decide) (show (71 : Nat) ≠ 69 by decide), rwM_c (show (72 : Nat) ≠ 68 by decide) (show (72 : Nat) ≠ 69 by decide), up_app, Nat.reduceEqDiff, Int.reduceEq, and_true, true_and, and_self, and_false, false_and, if_true, if_false, reduceIte]; omega)) (by first | omega | (simp only [rwM_c (show (59 : Nat) ≠ 68 by decide) (show (59 : Nat) ≠ 69 by decide), rwM_c (show (70 : Nat) ≠ 68 by decide) (show (70 : Nat) ≠ 69 by decide), rwM_c (show (71 : Nat) ≠ 68 by decide) (show (71 : Nat) ≠ 69 by decide), rwM_c (show (72 : Nat) ≠ 68 by decide) (show (72 : Nat) ≠ 69 by decide), up_app, Nat.reduceEqDiff, Int.reduceEq, and_true, true_and, and_self, and_false, false_and, if_true, if_false, reduceIte]; omega)) (fun h94 => ?_) (fun h94 => ?_)
      · refine f_aload_n hZ dX7_burnsOn_183 rfl ?_
        refine gX7_44 hZ dX7_burnsOn_184 ?_
        refine f_iload_n hZ dX7_burnsOn_187 rfl ?_
        refine f_iconst hZ dX7_burnsOn_188 ?_
        refine f_iadd hZ dX7_burnsOn_189 ?_
        refine f_aload_n hZ dX7_burnsOn_190 rfl ?_
        refine gX7_44 hZ dX7_burnsOn_191 ?_
        refine f_iload_n hZ dX7_burnsOn_194 rfl ?_
        refine f_iaload hZ dX7_burnsOn_195 (by first | rfl | exact hC.t1 | exact hC.t2 | exact hC.t3 | exact hC.t4 | exact hC.t5) (by first | rfl | exact hC.l1 | exact hC.l2 | exact hC.l3 | exact hC.l4 | exact hC.l5) (by first | omega | (simp only [rwM_c (show (59 : Nat) ≠ 68 by decide) (show (59 : Nat) ≠ 69 by decide), rwM_c (show (70 : Nat) ≠ 68 by decide) (show (70 : Nat) ≠ 69 by decide), rwM_c (show (71 : Nat) ≠ 68 by decide) (show (71 : Nat) ≠ 69 by decide), rwM_c (show (72 : Nat) ≠ 68 by decide) (show (72 : Nat) ≠ 69 by decide), up_app, Nat.reduceEqDiff, Int.reduceEq, and_true, true_and, and_self, and_false, false_and, if_true, if_false, reduceIte]; omega)) (by first | omega | (simp only [rwM_c (show (59 : Nat) ≠ 68 by decide) (show (59 : Nat) ≠ 69 by decide), rwM_c (show (70 : Nat) ≠ 68 by decide) (show (70 : Nat) ≠ 69 by decide), rwM_c (show (71 : Nat) ≠ 68 by decide) (show (71 : Nat) ≠ 69 by decide), rwM_c (show (72 : Nat) ≠ 68 by decide) (show (72 : Nat) ≠ 69 by decide), up_app, Nat.reduceEqDiff, Int.reduceEq, and_true, true_and, and_self, and_false, false_and, if_true, if_false, reduceIte]; omega)) (fun r195 => ?_)
        try simp only [rwM_c (show (59 : Nat) ≠ 68 by decide) (show (59 : Nat) ≠ 69 by decide), rwM_c (show (70 : Nat) ≠ 68 by decide) (show (70 : Nat) ≠ 69 by decide), rwM_c (show (71 : Nat) ≠ 68 by decide) (show (71 : Nat) ≠ 69 by decide), rwM_c (show (72 : Nat) ≠ 68 by decide) (show (72 : Nat) ≠ 69 by decide), up_app, Nat.reduceEqDiff, Int.reduceEq, and_true, true_and, and_self, and_false, false_and, if_true, if_false, reduceIte] at r195 ⊢
        refine f_iload_n hZ dX7_burnsOn_196 rfl ?_
        refine f_iadd hZ dX7_burnsOn_197 ?_
        refine f_iastore hZ dX7_burnsOn_198 (by first | rfl | exact hC.t1 | exact hC.t2 | exact hC.t3 | exact hC.t4 | exact hC.t5) (by first | rfl | exact hC.l1 | exact hC.l2 | exact hC.l3 | exact hC.l4 | exact hC.l5) (by first | omega | (simp only [rwM_c (show (59 : Nat) ≠ 68 by decide) (show (59 : Nat) ≠ 69 by decide), rwM_c (show (70 : Nat) ≠ 68 by decide) (show (70 : Nat) ≠ 69 by decide), rwM_c (show (71 : Nat) ≠ 68 by decide) (show (71 : Nat) ≠ 69 by decide), rwM_c (show (72 : Nat) ≠ 68 by decide) (show (72 : Nat) ≠ 69 by decide), up_app, Nat.reduceEqDiff, Int.reduceEq, and_true, true_and, and_self, and_false, false_and, if_true, if_false, reduceIte]; omega)) (by first | omega | (simp only [rwM_c (show (59 : Nat) ≠ 68 by decide) (show (59 : Nat) ≠ 69 by decide), rwM_c (show (70 : Nat) ≠ 68 by decide) (show (70 : Nat) ≠ 69 by decide), rwM_c (show (71 : Nat) ≠ 68 by decide) (show (71 : Nat) ≠ 69 by decide), rwM_c (show (72 : Nat) ≠ 68 by decide) (show (72 : Nat) ≠ 69 by decide), up_app, Nat.reduceEqDiff, Int.reduceEq, and_true, true_and, and_self, and_false, false_and, if_true, if_false, reduceIte]; omega)) (by first | omega | (simp only [rwM_c (show (59 : Nat) ≠ 68 by decide) (show (59 : Nat) ≠ 69 by decide), rwM_c (show (70 : Nat) ≠ 68 by decide) (show (70 : Nat) ≠ 69 by decide), rwM_c (show (71 : Nat) ≠ 68 by decide) (show (71 : Nat) ≠ 69 by decide), rwM_c (show (72 : Nat) ≠ 68 by decide) (show (72 : Nat) ≠ 69 by decide), up_app, Nat.reduceEqDiff, Int.reduceEq, and_true, true_and, and_self, and_false, false_and, if_true, if_false, reduceIte]; omega)) ?_
        refine f_aload_n hZ dX7_burnsOn_199 rfl ?_
        refine gX7_47 hZ dX7_burnsOn_200 ?_
        refine f_iload_n hZ dX7_burnsOn_203 rfl ?_
        refine f_iconst hZ dX7_burnsOn_204 ?_
        refine f_iadd hZ dX7_burnsOn_205 ?_
        refine f_aload_n hZ dX7_burnsOn_206 rfl ?_
        refine gX7_47 hZ dX7_burnsOn_207 ?_
        refine f_iload_n hZ dX7_burnsOn_210 rfl ?_
        refine f_iaload hZ dX7_burnsOn_211 (by first | rfl | exact hC.t1 | exact hC.t2 | exact hC.t3 | exact hC.t4 | exact hC.t5) (by first | rfl | exact hC.l1 | exact hC.l2 | exact hC.l3 | exact hC.l4 | exact hC.l5) (by first | omega | (simp only [rwM_c (show (59 : Nat) ≠ 68 by decide) (show (59 : Nat) ≠ 69 by decide), rwM_c (show (70 : Nat) ≠ 68 by decide) (show (70 : Nat) ≠ 69 by decide), rwM_c (show (71 : Nat) ≠ 68 by decide) (show (71 : Nat) ≠ 69 by decide), rwM_c (show (72 : Nat) ≠ 68 by decide) (show (72 : Nat) ≠ 69 by decide), up_app, Nat.reduceEqDiff, Int.reduceEq, and_true, true_and, and_self, and_false, false_and, if_true, if_false, reduceIte]; omega)) (by first | omega | (simp only [rwM_c (show (59 : Nat) ≠ 68 by decide) (show (59 : Nat) ≠ 69 by decide), rwM_c (show (70 : Nat) ≠ 68 by decide) (show (70 : Nat) ≠ 69 by decide), rwM_c (show (71 : Nat) ≠ 68 by decide) (show (71 : Nat) ≠ 69 by decide), rwM_c (show (72 : Nat) ≠ 68 by decide) (show (72 : Nat) ≠ 69 by decide), up_app, Nat.reduceEqDiff, Int.reduceEq, and_true, true_and, and_self, and_false, false_and, if_true, if_false, reduceIte]; omega)) (fun r211 => ?_)
        try simp only [rwM_c (show (59 : Nat) ≠ 68 by decide) (show (59 : Nat) ≠ 69 by decide), rwM_c (show (70 : Nat) ≠ 68 by decide) (show (70 : Nat) ≠ 69 by decide), rwM_c (show (71 : Nat) ≠ 68 by decide) (show (71 : Nat) ≠ 69 by decide), rwM_c (show (72 : Nat) ≠ 68 by decide) (show (72 : Nat) ≠ 69 by decide), up_app, Nat.reduceEqDiff, Int.reduceEq, and_true, true_and, and_self, and_false, false_and, if_true, if_false, reduceIte] at r211 ⊢
        refine f_iastore hZ dX7_burnsOn_212 (by first | rfl | exact hC.t1 | exact hC.t2 | exact hC.t3 | exact hC.t4 | exact hC.t5) (by first | rfl | exact hC.l1 | exact hC.l2 | exact hC.l3 | exact hC.l4 | exact hC.l5) (by first | omega | (simp only [rwM_c (show (59 : Nat) ≠ 68 by decide) (show (59 : Nat) ≠ 69 by decide), rwM_c (show (70 : Nat) ≠ 68 by decide) (show (70 : Nat) ≠ 69 by decide), rwM_c (show (71 : Nat) ≠ 68 by decide) (show (71 : Nat) ≠ 69 by decide), rwM_c (show (72 : Nat) ≠ 68 by decide) (show (72 : Nat) ≠ 69 by decide), up_app, Nat.reduceEqDiff, Int.reduceEq, and_true, true_and, and_self, and_false, false_and, if_true, if_false, reduceIte]; omega)) (by first | omega | (simp only [rwM_c (show (59 : Nat) ≠ 68 by decide) (show (59 : Nat) ≠ 69 by decide), rwM_c (show (70 : Nat) ≠ 68 by decide) (show (70 : Nat) ≠ 69 by decide), rwM_c (show (71 : Nat) ≠ 68 by decide) (show (71 : Nat) ≠ 69 by decide), rwM_c (show (72 : Nat) ≠ 68 by decide) (show (72 : Nat) ≠ 69 by decide), up_app, Nat.reduceEqDiff, Int.reduceEq, and_true, true_and, and_self, and_false, false_and, if_true, if_false, reduceIte]; omega)) (by first | omega | (simp only [rwM_c (show (59 : Nat) ≠ 68 by decide) (show (59 : Nat) ≠ 69 by decide), rwM_c (show (70 : Nat) ≠ 68 by decide) (show (70 : Nat) ≠ 69 by decide), rwM_c (show (71 : Nat) ≠ 68 by decide) (show (71 : Nat) ≠ 69 by decide), rwM_c (show (72 : Nat) ≠ 68 by decide) (show (72 : Nat) ≠ 69 by decide), up_app, Nat.reduceEqDiff, Int.reduceEq, and_true, true_and, and_self, and_false, false_and, if_true, if_false, reduceIte]; omega)) ?_
        refine f_aload_n hZ dX7_burnsOn_213 rfl ?_
        refine gX7_50 hZ dX7_burnsOn_214 ?_
        refine f_iload_n hZ dX7_burnsOn_217 rfl ?_
        refine f_iconst hZ dX7_burnsOn_218 ?_
        refine f_iadd hZ dX7_burnsOn_219 ?_
        refine f_aload_n hZ dX7_burnsOn_220 rfl ?_
        refine gX7_50 hZ dX7_burnsOn_221 ?_
        refine f_iload_n hZ dX7_burnsOn_224 rfl ?_
        refine f_iaload hZ dX7_burnsOn_225 (by first | rfl | exact hC.t1 | exact hC.t2 | exact hC.t3 | exact hC.t4 | exact hC.t5) (by first | rfl | exact hC.l1 | exact hC.l2 | exact hC.l3 | exact hC.l4 | exact hC.l5) (by first | omega | (simp only [rwM_c (show (59 : Nat) ≠ 68 by decide) (show (59 : Nat) ≠ 69 by decide), rwM_c (show (70 : Nat) ≠ 68 by decide) (show (70 : Nat) ≠ 69 by decide), rwM_c (show (71 : Nat) ≠ 68 by decide) (show (71 : Nat) ≠ 69 by decide), rwM_c (show (72 : Nat) ≠ 68 by decide) (show (72 : Nat) ≠ 69 by decide), up_app, Nat.reduceEqDiff, Int.reduceEq, and_true, true_and, and_self, and_false, false_and, if_true, if_false, reduceIte]; omega)) (by first | omega | (simp only [rwM_c (show (59 : Nat) ≠ 68 by decide) (show (59 : Nat) ≠ 69 by decide), rwM_c (show (70 : Nat) ≠ 68 by decide) (show (70 : Nat) ≠ 69 by decide), rwM_c (show (71 : Nat) ≠ 68 by decide) (show (71 : Nat) ≠ 69 by decide), rwM_c (show (72 : Nat) ≠ 68 by decide) (show (72 : Nat) ≠ 69 by decide), up_app, Nat.reduceEqDiff, Int.reduceEq, and_true, true_and, and_self, and_false, false_and, if_true, if_false, reduceIte]; omega)) (fun r225 => ?_)
        try simp only [rwM_c (show (59 : Nat) ≠ 68 by decide) (show (59 : Nat) ≠ 69 by decide), rwM_c (show (70 : Nat) ≠ 68 by decide) (show (70 : Nat) ≠ 69 by decide), rwM_c (show (71 : Nat) ≠ 68 by decide) (show (71 : Nat) ≠ 69 by decide), rwM_c (show (72 : Nat) ≠ 68 by decide) (show (72 : Nat) ≠ 69 by decide), up_app, Nat.reduceEqDiff, Int.reduceEq, and_true, true_and, and_self, and_false, false_and, if_true, if_false, reduceIte] at r225 ⊢
        refine f_iastore hZ dX7_burnsOn_226 (by first | rfl | exact hC.t1 | exact hC.t2 | exact hC.t3 | exact hC.t4 | exact hC.t5) (by first | rfl | exact hC.l1 | exact hC.l2 | exact hC.l3 | exact hC.l4 | exact hC.l5) (by first | omega | (simp only [rwM_c (show (59 : Nat) ≠ 68 by decide) (show (59 : Nat) ≠ 69 by decide), rwM_c (show (70 : Nat) ≠ 68 by decide) (show (70 : Nat) ≠ 69 by decide), rwM_c (show (71 : Nat) ≠ 68 by decide) (show (71 : Nat) ≠ 69 by decide), rwM_c (show (72 : Nat) ≠ 68 by decide) (show (72 : Nat) ≠ 69 by decide), up_app, Nat.reduceEqDiff, Int.reduceEq, and_true, true_and, and_self, and_false, false_and, if_true, if_false, reduceIte]; omega)) (by first | omega | (simp only [rwM_c (show (59 : Nat) ≠ 68 by decide) (show (59 : Nat) ≠ 69 by decide), rwM_c (show (70 : Nat) ≠ 68 by decide) (show (70 : Nat) ≠ 69 by decide), rwM_c (show (71 : Nat) ≠ 68 by decide) (show (71 : Nat) ≠ 69 by decide), rwM_c (show (72 : Nat) ≠ 68 by decide) (show (72 : Nat) ≠ 69 by decide), up_app, Nat.reduceEqDiff, Int.reduceEq, and_true, true_and, and_self, and_false, false_and, if_true, if_false, reduceIte]; omega)) (by first | omega | (simp only [rwM_c (show (59 : Nat) ≠ 68 by decide) (show (59 : Nat) ≠ 69 by decide), rwM_c (show (70 : Nat) ≠ 68 by decide) (show (70 : Nat) ≠ 69 by decide), rwM_c (show (71 : Nat) ≠ 68 by decide) (show (71 : Nat) ≠ 69 by decide), rwM_c (show (72 : Nat) ≠ 68 by decide) (show (72 : Nat) ≠ 69 by decide), up_app, Nat.reduceEqDiff, Int.reduceEq, and_true, true_and, and_self, and_false, false_and, if_true, if_false, reduceIte]; omega)) ?_
        rw [show up (up (up (rwM M lv T (M 59 12)) 70 (lv + 1) (M 70 lv + T)) 71 (lv + 1) (M 71 lv)) 72 (lv + 1) (M 72 lv) = nxM M lv T from rfl]
        have e70 : ∀ j, j ≤ lv → nxM M lv T 70 j = M 70 j := fun j hj => by rw [nxM_70, if_neg (by omega)]
        have n1 : nxM M lv T 70 (lv + 1) = M 70 lv + T := by rw [nxM_70, if_pos rfl]
        have n2 : nxM M lv T 71 lv = M 71 lv := by rw [nxM_71, if_neg (by omega)]
        have n3 : nxM M lv T 72 lv = M 72 lv := by rw [nxM_72, if_neg (by omega)]
        have n4 : nxM M lv T 59 = M 59 := nxM_c (by decide)
        refine f_aload_n hZ dX7_burnsOn_227 rfl ?_
        refine f_iload_n hZ dX7_burnsOn_228 rfl ?_
        refine vX7_320 hZ dX7_burnsOn_229 (t_X7_notes ⟨by omega, h3⟩ (by omega) (by omega) (by omega) (by rw [n4]; exact hnu3) (by rw [n4]; exact hk.1.2.2.2.1) (fun j a b => by rw [e70 j b]; have := htm.2 j a b; omega) (hk.1.2.2.2.2.1.eq (fun c a b => nxM_c (by omega)))) (fun M229 h229 => ?_)
        have hok := bu_ok hk hT hTr h3 h229
        refine f_aload_n hZ dX7_burnsOn_232 rfl ?_
        refine f_iload_n hZ dX7_burnsOn_233 rfl ?_
        refine f_iconst hZ dX7_burnsOn_234 ?_
        refine f_iadd hZ dX7_burnsOn_235 ?_
        refine f_iconst hZ dX7_burnsOn_236 ?_
        refine vX7_304 hZ dX7_burnsOn_237 (hL _ hok.1 hok.2) (fun M237 h237 => ?_)
        exact f_retV hZ hR dX7_burnsOn_240 rfl (by exact bu_fin hk hT hTr h3 h229 h237)
      · exfalso; omega
    | succ m ih =>
      intro i him hi0
      have hi : 0 ≤ i ∧ i < M 59 12 := by omega
      have hA := hk.1.1.2.2.2 i hi.1 hi.2
      have hA1 := hA.1
      have hA2 := hA.2.1
      have hA3 := hA.2.2.1
      have hro := hk.2.2.1 i hi.1 hi.2
      have hro1 := hro.1
      have hro2 := hro.2.1
      clear hA hro
      have hsp := bu_spd (M := M) (lv := lv) hi
      have hsr := bu_srg hk hi
      have hba := bu_at (M := M) (lv := lv) hi
      refine f_iload_n hZ dX7_burnsOn_89 rfl ?_
      refine f_aload_n hZ dX7_burnsOn_90 rfl ?_
      refine gX7_110 hZ dX7_burnsOn_91 (fun r91 => ?_)
      try simp only [rwM_lo (show 4 * lv + i < 4 * lv + 4 by omega), rwM_c (show (59 : Nat) ≠ 68 by decide) (show (59 : Nat) ≠ 69 by decide), rwM_c (show (70 : Nat) ≠ 68 by decide) (show (70 : Nat) ≠ 69 by decide), rwM_c (show (71 : Nat) ≠ 68 by decide) (show (71 : Nat) ≠ 69 by decide), rwM_c (show (72 : Nat) ≠ 68 by decide) (show (72 : Nat) ≠ 69 by decide), up_app, Nat.reduceEqDiff, Int.reduceEq, and_true, true_and, and_self, and_false, false_and, if_true, if_false, reduceIte] at r91 ⊢
      refine f_ige (tgt := 183) hZ dX7_burnsOn_94 rfl (by first | omega | (simp only [rwM_lo (show 4 * lv + i < 4 * lv + 4 by omega), rwM_c (show (59 : Nat) ≠ 68 by decide) (show (59 : Nat) ≠ 69 by decide), rwM_c (show (70 : Nat) ≠ 68 by decide) (show (70 : Nat) ≠ 69 by decide), rwM_c (show (71 : Nat) ≠ 68 by decide) (show (71 : Nat) ≠ 69 by decide), rwM_c (show (72 : Nat) ≠ 68 by decide) (show (72 : Nat) ≠ 69 by decide), up_app, Nat.reduceEqDiff, Int.reduceEq, and_true, true_and, and_self, and_false, false_and, if_true, if_false, reduceIte]; omega)) (by first | omega | (simp only [rwM_lo (show 4 * lv + i < 4 * lv + 4 by omega), rwM_c (show (59 : Nat) ≠ 68 by decide) (show (59 : Nat) ≠ 69 by decide), rwM_c (show (70 : Nat) ≠ 68 by decide) (show (70 : Nat) ≠ 69 by decide), rwM_c (show (71 : Nat) ≠ 68 by decide) (show (71 : Nat) ≠ 69 by decide), rwM_c (show (72 : Nat) ≠ 68 by decide) (show (72 : Nat) ≠ 69 by decide), up_app, Nat.reduceEqDiff, Int.reduceEq, and_true, true_and, and_self, and_false, false_and, if_true, if_false, reduceIte]; omega)) (fun h94 => ?_) (fun h94 => ?_)
      · exfalso; omega
      · refine f_iconst hZ dX7_burnsOn_97 ?_
        refine f_iload_n hZ dX7_burnsOn_98 rfl ?_
        refine f_imul hZ dX7_burnsOn_99 ?_
        refine f_iload_n hZ dX7_burnsOn_100 rfl ?_
        refine f_iadd hZ dX7_burnsOn_101 ?_
        refine f_istore (L' := [_, _, _, _, _, _]) hZ dX7_burnsOn_102 rfl rfl ?_
        refine f_aload_n hZ dX7_burnsOn_104 rfl ?_
        refine gX7_38 hZ dX7_burnsOn_105 ?_
        refine f_iload hZ dX7_burnsOn_108 rfl ?_
        refine f_iaload hZ dX7_burnsOn_110 (by first | rfl | exact hC.t1 | exact hC.t2 | exact hC.t3 | exact hC.t4 | exact hC.t5) (by first | rfl | exact hC.l1 | exact hC.l2 | exact hC.l3 | exact hC.l4 | exact hC.l5) (by first | omega | (simp only [rwM_lo (show 4 * lv + i < 4 * lv + 4 by omega), rwM_c (show (59 : Nat) ≠ 68 by decide) (show (59 : Nat) ≠ 69 by decide), rwM_c (show (70 : Nat) ≠ 68 by decide) (show (70 : Nat) ≠ 69 by decide), rwM_c (show (71 : Nat) ≠ 68 by decide) (show (71 : Nat) ≠ 69 by decide), rwM_c (show (72 : Nat) ≠ 68 by decide) (show (72 : Nat) ≠ 69 by decide), up_app, Nat.reduceEqDiff, Int.reduceEq, and_true, true_and, and_self, and_false, false_and, if_true, if_false, reduceIte]; omega)) (by first | omega | (simp only [rwM_lo (show 4 * lv + i < 4 * lv + 4 by omega), rwM_c (show (59 : Nat) ≠ 68 by decide) (show (59 : Nat) ≠ 69 by decide), rwM_c (show (70 : Nat) ≠ 68 by decide) (show (70 : Nat) ≠ 69 by decide), rwM_c (show (71 : Nat) ≠ 68 by decide) (show (71 : Nat) ≠ 69 by decide), rwM_c (show (72 : Nat) ≠ 68 by decide) (show (72 : Nat) ≠ 69 by decide), up_app, Nat.reduceEqDiff, Int.reduceEq, and_true, true_and, and_self, and_false, false_and, if_true, if_false, reduceIte]; omega)) (fun r110 => ?_)
        try simp only [rwM_lo (show 4 * lv + i < 4 * lv + 4 by omega), rwM_c (show (59 : Nat) ≠ 68 by decide) (show (59 : Nat) ≠ 69 by decide), rwM_c (show (70 : Nat) ≠ 68 by decide) (show (70 : Nat) ≠ 69 by decide), rwM_c (show (71 : Nat) ≠ 68 by decide) (show (71 : Nat) ≠ 69 by decide), rwM_c (show (72 : Nat) ≠ 68 by decide) (show (72 : Nat) ≠ 69 by decide), up_app, Nat.reduceEqDiff, Int.reduceEq, and_true, true_and, and_self, and_false, false_and, if_true, if_false, reduceIte] at r110 ⊢
        refine f_aload_n hZ dX7_burnsOn_111 rfl ?_
        refine f_iload_n hZ dX7_burnsOn_112 rfl ?_
        refine f_aload_n hZ dX7_burnsOn_113 rfl ?_
        refine gX7_41 hZ dX7_burnsOn_114 ?_
        refine f_iload hZ dX7_burnsOn_117 rfl ?_
        refine f_iaload hZ dX7_burnsOn_119 (by first | rfl | exact hC.t1 | exact hC.t2 | exact hC.t3 | exact hC.t4 | exact hC.t5) (by first | rfl | exact hC.l1 | exact hC.l2 | exact hC.l3 | exact hC.l4 | exact hC.l5) (by first | omega | (simp only [rwM_lo (show 4 * lv + i < 4 * lv + 4 by omega), rwM_c (show (59 : Nat) ≠ 68 by decide) (show (59 : Nat) ≠ 69 by decide), rwM_c (show (70 : Nat) ≠ 68 by decide) (show (70 : Nat) ≠ 69 by decide), rwM_c (show (71 : Nat) ≠ 68 by decide) (show (71 : Nat) ≠ 69 by decide), rwM_c (show (72 : Nat) ≠ 68 by decide) (show (72 : Nat) ≠ 69 by decide), up_app, Nat.reduceEqDiff, Int.reduceEq, and_true, true_and, and_self, and_false, false_and, if_true, if_false, reduceIte]; omega)) (by first | omega | (simp only [rwM_lo (show 4 * lv + i < 4 * lv + 4 by omega), rwM_c (show (59 : Nat) ≠ 68 by decide) (show (59 : Nat) ≠ 69 by decide), rwM_c (show (70 : Nat) ≠ 68 by decide) (show (70 : Nat) ≠ 69 by decide), rwM_c (show (71 : Nat) ≠ 68 by decide) (show (71 : Nat) ≠ 69 by decide), rwM_c (show (72 : Nat) ≠ 68 by decide) (show (72 : Nat) ≠ 69 by decide), up_app, Nat.reduceEqDiff, Int.reduceEq, and_true, true_and, and_self, and_false, false_and, if_true, if_false, reduceIte]; omega)) (fun r119 => ?_)
        try simp only [rwM_lo (show 4 * lv + i < 4 * lv + 4 by omega), rwM_c (show (59 : Nat) ≠ 68 by decide) (show (59 : Nat) ≠ 69 by decide), rwM_c (show (70 : Nat) ≠ 68 by decide) (show (70 : Nat) ≠ 69 by decide), rwM_c (show (71 : Nat) ≠ 68 by decide) (show (71 : Nat) ≠ 69 by decide), rwM_c (show (72 : Nat) ≠ 68 by decide) (show (72 : Nat) ≠ 69 by decide), up_app, Nat.reduceEqDiff, Int.reduceEq, and_true, true_and, and_self, and_false, false_and, if_true, if_false, reduceIte] at r119 ⊢
        refine f_aload_n hZ dX7_burnsOn_120 rfl ?_
        refine gX7_289 hZ dX7_burnsOn_121 (fun r121 => ?_)
        try simp only [rwM_lo (show 4 * lv + i < 4 * lv + 4 by omega), rwM_c (show (59 : Nat) ≠ 68 by decide) (show (59 : Nat) ≠ 69 by decide), rwM_c (show (70 : Nat) ≠ 68 by decide) (show (70 : Nat) ≠ 69 by decide), rwM_c (show (71 : Nat) ≠ 68 by decide) (show (71 : Nat) ≠ 69 by decide), rwM_c (show (72 : Nat) ≠ 68 by decide) (show (72 : Nat) ≠ 69 by decide), up_app, Nat.reduceEqDiff, Int.reduceEq, and_true, true_and, and_self, and_false, false_and, if_true, if_false, reduceIte] at r121 ⊢
        refine vX7_145 hZ dX7_burnsOn_124 (t_fastR (M := M) (rwM_c (by decide) (by decide)) (rwM_c (by decide) (by decide)) (by omega) hA1 hA2 (by omega) (by omega)) (fun a124 M124 r124 h124 => ?_)
        obtain ⟨e124, h124⟩ := h124
        replace e124 := e124.symm
        subst e124
        have hm6 : 0 ≤ a124 ∧ a124 ≤ 6 := by rw [h124, ← hsp]; exact ⟨hsr.1, hsr.2.1⟩
        have hml : 0 ≤ a124 * T ∧ a124 * T ≤ 594 := ⟨Int.mul_nonneg hm6.1 (by omega), Int.le_trans (Int.mul_le_mul_of_nonneg_right hm6.2 (by omega)) (by omega)⟩
        have hlf : leftZ (mvZ M) (bs M lv) T i = M 68 (4 * lv + i) - a124 * T := by unfold leftZ; rw [hba.1, hsp, ← h124]
        refine f_iload_n hZ dX7_burnsOn_127 rfl ?_
        refine f_imul hZ dX7_burnsOn_128 ?_
        refine f_isub hZ dX7_burnsOn_129 ?_
        refine f_istore (L' := [_, _, _, _, _, _]) hZ dX7_burnsOn_130 rfl rfl ?_
        refine f_aload_n hZ dX7_burnsOn_132 rfl ?_
        refine gX7_38 hZ dX7_burnsOn_133 ?_
        refine f_iload hZ dX7_burnsOn_136 rfl ?_
        refine f_iconst hZ dX7_burnsOn_138 ?_
        refine f_iadd hZ dX7_burnsOn_139 ?_
        refine f_iload hZ dX7_burnsOn_140 rfl ?_
        refine f_ge (tgt := 149) hZ dX7_burnsOn_142 rfl (by first | omega | (simp only [rwM_lo (show 4 * lv + i < 4 * lv + 4 by omega), rwM_c (show (59 : Nat) ≠ 68 by decide) (show (59 : Nat) ≠ 69 by decide), rwM_c (show (70 : Nat) ≠ 68 by decide) (show (70 : Nat) ≠ 69 by decide), rwM_c (show (71 : Nat) ≠ 68 by decide) (show (71 : Nat) ≠ 69 by decide), rwM_c (show (72 : Nat) ≠ 68 by decide) (show (72 : Nat) ≠ 69 by decide), up_app, Nat.reduceEqDiff, Int.reduceEq, and_true, true_and, and_self, and_false, false_and, if_true, if_false, reduceIte]; omega)) (fun h142 => ?_) (fun h142 => ?_)
        · refine f_iload hZ dX7_burnsOn_149 rfl ?_
          refine f_iastore hZ dX7_burnsOn_151 (by first | rfl | exact hC.t1 | exact hC.t2 | exact hC.t3 | exact hC.t4 | exact hC.t5) (by first | rfl | exact hC.l1 | exact hC.l2 | exact hC.l3 | exact hC.l4 | exact hC.l5) (by first | omega | (simp only [rwM_lo (show 4 * lv + i < 4 * lv + 4 by omega), rwM_c (show (59 : Nat) ≠ 68 by decide) (show (59 : Nat) ≠ 69 by decide), rwM_c (show (70 : Nat) ≠ 68 by decide) (show (70 : Nat) ≠ 69 by decide), rwM_c (show (71 : Nat) ≠ 68 by decide) (show (71 : Nat) ≠ 69 by decide), rwM_c (show (72 : Nat) ≠ 68 by decide) (show (72 : Nat) ≠ 69 by decide), up_app, Nat.reduceEqDiff, Int.reduceEq, and_true, true_and, and_self, and_false, false_and, if_true, if_false, reduceIte]; omega)) (by first | omega | (simp only [rwM_lo (show 4 * lv + i < 4 * lv + 4 by omega), rwM_c (show (59 : Nat) ≠ 68 by decide) (show (59 : Nat) ≠ 69 by decide), rwM_c (show (70 : Nat) ≠ 68 by decide) (show (70 : Nat) ≠ 69 by decide), rwM_c (show (71 : Nat) ≠ 68 by decide) (show (71 : Nat) ≠ 69 by decide), rwM_c (show (72 : Nat) ≠ 68 by decide) (show (72 : Nat) ≠ 69 by decide), up_app, Nat.reduceEqDiff, Int.reduceEq, and_true, true_and, and_self, and_false, false_and, if_true, if_false, reduceIte]; omega)) (by first | omega | (simp only [rwM_lo (show 4 * lv + i < 4 * lv + 4 by omega), rwM_c (show (59 : Nat) ≠ 68 by decide) (show (59 : Nat) ≠ 69 by decide), rwM_c (show (70 : Nat) ≠ 68 by decide) (show (70 : Nat) ≠ 69 by decide), rwM_c (show (71 : Nat) ≠ 68 by decide) (show (71 : Nat) ≠ 69 by decide), rwM_c (show (72 : Nat) ≠ 68 by decide) (show (72 : Nat) ≠ 69 by decide), up_app, Nat.reduceEqDiff, Int.reduceEq, and_true, true_and, and_self, and_false, false_and, if_true, if_false, reduceIte]; omega)) ?_
          refine f_aload_n hZ dX7_burnsOn_152 rfl ?_
          refine gX7_41 hZ dX7_burnsOn_153 ?_
          refine f_iload hZ dX7_burnsOn_156 rfl ?_
          refine f_iconst hZ dX7_burnsOn_158 ?_
          refine f_iadd hZ dX7_burnsOn_159 ?_
          refine f_iload hZ dX7_burnsOn_160 rfl ?_
          refine f_gt (tgt := 169) hZ dX7_burnsOn_162 rfl (by first | omega | (simp only [rwM_lo (show 4 * lv + i < 4 * lv + 4 by omega), rwM_c (show (59 : Nat) ≠ 68 by decide) (show (59 : Nat) ≠ 69 by decide), rwM_c (show (70 : Nat) ≠ 68 by decide) (show (70 : Nat) ≠ 69 by decide), rwM_c (show (71 : Nat) ≠ 68 by decide) (show (71 : Nat) ≠ 69 by decide), rwM_c (show (72 : Nat) ≠ 68 by decide) (show (72 : Nat) ≠ 69 by decide), up_app, Nat.reduceEqDiff, Int.reduceEq, and_true, true_and, and_self, and_false, false_and, if_true, if_false, reduceIte]; omega)) (fun h162 => ?_) (fun h162 => ?_)
          · refine f_aload_n hZ dX7_burnsOn_169 rfl ?_
            refine gX7_41 hZ dX7_burnsOn_170 ?_
            refine f_iload hZ dX7_burnsOn_173 rfl ?_
            refine f_iaload hZ dX7_burnsOn_175 (by first | rfl | exact hC.t1 | exact hC.t2 | exact hC.t3 | exact hC.t4 | exact hC.t5) (by first | rfl | exact hC.l1 | exact hC.l2 | exact hC.l3 | exact hC.l4 | exact hC.l5) (by first | omega | (simp only [rwM_lo (show 4 * lv + i < 4 * lv + 4 by omega), rwM_c (show (59 : Nat) ≠ 68 by decide) (show (59 : Nat) ≠ 69 by decide), rwM_c (show (70 : Nat) ≠ 68 by decide) (show (70 : Nat) ≠ 69 by decide), rwM_c (show (71 : Nat) ≠ 68 by decide) (show (71 : Nat) ≠ 69 by decide), rwM_c (show (72 : Nat) ≠ 68 by decide) (show (72 : Nat) ≠ 69 by decide), up_app, Nat.reduceEqDiff, Int.reduceEq, and_true, true_and, and_self, and_false, false_and, if_true, if_false, reduceIte]; omega)) (by first | omega | (simp only [rwM_lo (show 4 * lv + i < 4 * lv + 4 by omega), rwM_c (show (59 : Nat) ≠ 68 by decide) (show (59 : Nat) ≠ 69 by decide), rwM_c (show (70 : Nat) ≠ 68 by decide) (show (70 : Nat) ≠ 69 by decide), rwM_c (show (71 : Nat) ≠ 68 by decide) (show (71 : Nat) ≠ 69 by decide), rwM_c (show (72 : Nat) ≠ 68 by decide) (show (72 : Nat) ≠ 69 by decide), up_app, Nat.reduceEqDiff, Int.reduceEq, and_true, true_and, and_self, and_false, false_and, if_true, if_false, reduceIte]; omega)) (fun r175 => ?_)
            try simp only [rwM_lo (show 4 * lv + i < 4 * lv + 4 by omega), rwM_c (show (59 : Nat) ≠ 68 by decide) (show (59 : Nat) ≠ 69 by decide), rwM_c (show (70 : Nat) ≠ 68 by decide) (show (70 : Nat) ≠ 69 by decide), rwM_c (show (71 : Nat) ≠ 68 by decide) (show (71 : Nat) ≠ 69 by decide), rwM_c (show (72 : Nat) ≠ 68 by decide) (show (72 : Nat) ≠ 69 by decide), up_app, Nat.reduceEqDiff, Int.reduceEq, and_true, true_and, and_self, and_false, false_and, if_true, if_false, reduceIte] at r175 ⊢
            refine f_iastore hZ dX7_burnsOn_176 (by first | rfl | exact hC.t1 | exact hC.t2 | exact hC.t3 | exact hC.t4 | exact hC.t5) (by first | rfl | exact hC.l1 | exact hC.l2 | exact hC.l3 | exact hC.l4 | exact hC.l5) (by first | omega | (simp only [rwM_lo (show 4 * lv + i < 4 * lv + 4 by omega), rwM_c (show (59 : Nat) ≠ 68 by decide) (show (59 : Nat) ≠ 69 by decide), rwM_c (show (70 : Nat) ≠ 68 by decide) (show (70 : Nat) ≠ 69 by decide), rwM_c (show (71 : Nat) ≠ 68 by decide) (show (71 : Nat) ≠ 69 by decide), rwM_c (show (72 : Nat) ≠ 68 by decide) (show (72 : Nat) ≠ 69 by decide), up_app, Nat.reduceEqDiff, Int.reduceEq, and_true, true_and, and_self, and_false, false_and, if_true, if_false, reduceIte]; omega)) (by first | omega | (simp only [rwM_lo (show 4 * lv + i < 4 * lv + 4 by omega), rwM_c (show (59 : Nat) ≠ 68 by decide) (show (59 : Nat) ≠ 69 by decide), rwM_c (show (70 : Nat) ≠ 68 by decide) (show (70 : Nat) ≠ 69 by decide), rwM_c (show (71 : Nat) ≠ 68 by decide) (show (71 : Nat) ≠ 69 by decide), rwM_c (show (72 : Nat) ≠ 68 by decide) (show (72 : Nat) ≠ 69 by decide), up_app, Nat.reduceEqDiff, Int.reduceEq, and_true, true_and, and_self, and_false, false_and, if_true, if_false, reduceIte]; omega)) (by first | omega | (simp only [rwM_lo (show 4 * lv + i < 4 * lv + 4 by omega), rwM_c (show (59 : Nat) ≠ 68 by decide) (show (59 : Nat) ≠ 69 by decide), rwM_c (show (70 : Nat) ≠ 68 by decide) (show (70 : Nat) ≠ 69 by decide), rwM_c (show (71 : Nat) ≠ 68 by decide) (show (71 : Nat) ≠ 69 by decide), rwM_c (show (72 : Nat) ≠ 68 by decide) (show (72 : Nat) ≠ 69 by decide), up_app, Nat.reduceEqDiff, Int.reduceEq, and_true, true_and, and_self, and_false, false_and, if_true, if_false, reduceIte]; omega)) ?_
            refine f_iinc (L' := [_, _, _, _, _, _]) hZ dX7_burnsOn_177 rfl rfl ?_
            refine f_goto (tgt := 89) hZ dX7_burnsOn_180 rfl ?_
            refine f_forget (L' := [_, _, _, _, .null, .null]) ⟨Or.inl rfl, Or.inl rfl, Or.inl rfl, Or.inl rfl, Or.inr rfl, Or.inr rfl, trivial⟩ ?_
            first
              | (exfalso; omega)
              | (rw [rwM_st hi0 (by show _ = (if 0 < leftZ (mvZ M) (bs M lv) T i then leftZ (mvZ M) (bs M lv) T i else 0); rw [hlf, if_pos (by omega)]) (by show _ = (if 0 < leftZ (mvZ M) (bs M lv) T i then sl (bs M lv) i else 0); rw [hlf, if_pos (by omega), hba.2])]; exact ih (i + 1) (by omega) (by omega))
              | (rw [rwM_st hi0 (by show _ = (if 0 < leftZ (mvZ M) (bs M lv) T i then leftZ (mvZ M) (bs M lv) T i else 0); rw [hlf, if_neg (by omega)]; try omega) (by show _ = (if 0 < leftZ (mvZ M) (bs M lv) T i then sl (bs M lv) i else 0); rw [hlf, if_neg (by omega)])]; exact ih (i + 1) (by omega) (by omega))
          · refine f_iconst hZ dX7_burnsOn_165 ?_
            refine f_goto (tgt := 176) hZ dX7_burnsOn_166 rfl ?_
            refine f_iastore hZ dX7_burnsOn_176 (by first | rfl | exact hC.t1 | exact hC.t2 | exact hC.t3 | exact hC.t4 | exact hC.t5) (by first | rfl | exact hC.l1 | exact hC.l2 | exact hC.l3 | exact hC.l4 | exact hC.l5) (by first | omega | (simp only [rwM_lo (show 4 * lv + i < 4 * lv + 4 by omega), rwM_c (show (59 : Nat) ≠ 68 by decide) (show (59 : Nat) ≠ 69 by decide), rwM_c (show (70 : Nat) ≠ 68 by decide) (show (70 : Nat) ≠ 69 by decide), rwM_c (show (71 : Nat) ≠ 68 by decide) (show (71 : Nat) ≠ 69 by decide), rwM_c (show (72 : Nat) ≠ 68 by decide) (show (72 : Nat) ≠ 69 by decide), up_app, Nat.reduceEqDiff, Int.reduceEq, and_true, true_and, and_self, and_false, false_and, if_true, if_false, reduceIte]; omega)) (by first | omega | (simp only [rwM_lo (show 4 * lv + i < 4 * lv + 4 by omega), rwM_c (show (59 : Nat) ≠ 68 by decide) (show (59 : Nat) ≠ 69 by decide), rwM_c (show (70 : Nat) ≠ 68 by decide) (show (70 : Nat) ≠ 69 by decide), rwM_c (show (71 : Nat) ≠ 68 by decide) (show (71 : Nat) ≠ 69 by decide), rwM_c (show (72 : Nat) ≠ 68 by decide) (show (72 : Nat) ≠ 69 by decide), up_app, Nat.reduceEqDiff, Int.reduceEq, and_true, true_and, and_self, and_false, false_and, if_true, if_false, reduceIte]; omega)) (by first | omega | (simp only [rwM_lo (show 4 * lv + i < 4 * lv + 4 by omega), rwM_c (show (59 : Nat) ≠ 68 by decide) (show (59 : Nat) ≠ 69 by decide), rwM_c (show (70 : Nat) ≠ 68 by decide) (show (70 : Nat) ≠ 69 by decide), rwM_c (show (71 : Nat) ≠ 68 by decide) (show (71 : Nat) ≠ 69 by decide), rwM_c (show (72 : Nat) ≠ 68 by decide) (show (72 : Nat) ≠ 69 by decide), up_app, Nat.reduceEqDiff, Int.reduceEq, and_true, true_and, and_self, and_false, false_and, if_true, if_false, reduceIte]; omega)) ?_
            refine f_iinc (L' := [_, _, _, _, _, _]) hZ dX7_burnsOn_177 rfl rfl ?_
            refine f_goto (tgt := 89) hZ dX7_burnsOn_180 rfl ?_
            refine f_forget (L' := [_, _, _, _, .null, .null]) ⟨Or.inl rfl, Or.inl rfl, Or.inl rfl, Or.inl rfl, Or.inr rfl, Or.inr rfl, trivial⟩ ?_
            first
              | (exfalso; omega)
              | (rw [rwM_st hi0 (by show _ = (if 0 < leftZ (mvZ M) (bs M lv) T i then leftZ (mvZ M) (bs M lv) T i else 0); rw [hlf, if_pos (by omega)]) (by show _ = (if 0 < leftZ (mvZ M) (bs M lv) T i then sl (bs M lv) i else 0); rw [hlf, if_pos (by omega), hba.2])]; exact ih (i + 1) (by omega) (by omega))
              | (rw [rwM_st hi0 (by show _ = (if 0 < leftZ (mvZ M) (bs M lv) T i then leftZ (mvZ M) (bs M lv) T i else 0); rw [hlf, if_neg (by omega)]; try omega) (by show _ = (if 0 < leftZ (mvZ M) (bs M lv) T i then sl (bs M lv) i else 0); rw [hlf, if_neg (by omega)])]; exact ih (i + 1) (by omega) (by omega))
        · refine f_iconst hZ dX7_burnsOn_145 ?_
          refine f_goto (tgt := 151) hZ dX7_burnsOn_146 rfl ?_
          refine f_iastore hZ dX7_burnsOn_151 (by first | rfl | exact hC.t1 | exact hC.t2 | exact hC.t3 | exact hC.t4 | exact hC.t5) (by first | rfl | exact hC.l1 | exact hC.l2 | exact hC.l3 | exact hC.l4 | exact hC.l5) (by first | omega | (simp only [rwM_lo (show 4 * lv + i < 4 * lv + 4 by omega), rwM_c (show (59 : Nat) ≠ 68 by decide) (show (59 : Nat) ≠ 69 by decide), rwM_c (show (70 : Nat) ≠ 68 by decide) (show (70 : Nat) ≠ 69 by decide), rwM_c (show (71 : Nat) ≠ 68 by decide) (show (71 : Nat) ≠ 69 by decide), rwM_c (show (72 : Nat) ≠ 68 by decide) (show (72 : Nat) ≠ 69 by decide), up_app, Nat.reduceEqDiff, Int.reduceEq, and_true, true_and, and_self, and_false, false_and, if_true, if_false, reduceIte]; omega)) (by first | omega | (simp only [rwM_lo (show 4 * lv + i < 4 * lv + 4 by omega), rwM_c (show (59 : Nat) ≠ 68 by decide) (show (59 : Nat) ≠ 69 by decide), rwM_c (show (70 : Nat) ≠ 68 by decide) (show (70 : Nat) ≠ 69 by decide), rwM_c (show (71 : Nat) ≠ 68 by decide) (show (71 : Nat) ≠ 69 by decide), rwM_c (show (72 : Nat) ≠ 68 by decide) (show (72 : Nat) ≠ 69 by decide), up_app, Nat.reduceEqDiff, Int.reduceEq, and_true, true_and, and_self, and_false, false_and, if_true, if_false, reduceIte]; omega)) (by first | omega | (simp only [rwM_lo (show 4 * lv + i < 4 * lv + 4 by omega), rwM_c (show (59 : Nat) ≠ 68 by decide) (show (59 : Nat) ≠ 69 by decide), rwM_c (show (70 : Nat) ≠ 68 by decide) (show (70 : Nat) ≠ 69 by decide), rwM_c (show (71 : Nat) ≠ 68 by decide) (show (71 : Nat) ≠ 69 by decide), rwM_c (show (72 : Nat) ≠ 68 by decide) (show (72 : Nat) ≠ 69 by decide), up_app, Nat.reduceEqDiff, Int.reduceEq, and_true, true_and, and_self, and_false, false_and, if_true, if_false, reduceIte]; omega)) ?_
          refine f_aload_n hZ dX7_burnsOn_152 rfl ?_
          refine gX7_41 hZ dX7_burnsOn_153 ?_
          refine f_iload hZ dX7_burnsOn_156 rfl ?_
          refine f_iconst hZ dX7_burnsOn_158 ?_
          refine f_iadd hZ dX7_burnsOn_159 ?_
          refine f_iload hZ dX7_burnsOn_160 rfl ?_
          refine f_gt (tgt := 169) hZ dX7_burnsOn_162 rfl (by first | omega | (simp only [rwM_lo (show 4 * lv + i < 4 * lv + 4 by omega), rwM_c (show (59 : Nat) ≠ 68 by decide) (show (59 : Nat) ≠ 69 by decide), rwM_c (show (70 : Nat) ≠ 68 by decide) (show (70 : Nat) ≠ 69 by decide), rwM_c (show (71 : Nat) ≠ 68 by decide) (show (71 : Nat) ≠ 69 by decide), rwM_c (show (72 : Nat) ≠ 68 by decide) (show (72 : Nat) ≠ 69 by decide), up_app, Nat.reduceEqDiff, Int.reduceEq, and_true, true_and, and_self, and_false, false_and, if_true, if_false, reduceIte]; omega)) (fun h162 => ?_) (fun h162 => ?_)
          · refine f_aload_n hZ dX7_burnsOn_169 rfl ?_
            refine gX7_41 hZ dX7_burnsOn_170 ?_
            refine f_iload hZ dX7_burnsOn_173 rfl ?_
            refine f_iaload hZ dX7_burnsOn_175 (by first | rfl | exact hC.t1 | exact hC.t2 | exact hC.t3 | exact hC.t4 | exact hC.t5) (by first | rfl | exact hC.l1 | exact hC.l2 | exact hC.l3 | exact hC.l4 | exact hC.l5) (by first | omega | (simp only [rwM_lo (show 4 * lv + i < 4 * lv + 4 by omega), rwM_c (show (59 : Nat) ≠ 68 by decide) (show (59 : Nat) ≠ 69 by decide), rwM_c (show (70 : Nat) ≠ 68 by decide) (show (70 : Nat) ≠ 69 by decide), rwM_c (show (71 : Nat) ≠ 68 by decide) (show (71 : Nat) ≠ 69 by decide), rwM_c (show (72 : Nat) ≠ 68 by decide) (show (72 : Nat) ≠ 69 by decide), up_app, Nat.reduceEqDiff, Int.reduceEq, and_true, true_and, and_self, and_false, false_and, if_true, if_false, reduceIte]; omega)) (by first | omega | (simp only [rwM_lo (show 4 * lv + i < 4 * lv + 4 by omega), rwM_c (show (59 : Nat) ≠ 68 by decide) (show (59 : Nat) ≠ 69 by decide), rwM_c (show (70 : Nat) ≠ 68 by decide) (show (70 : Nat) ≠ 69 by decide), rwM_c (show (71 : Nat) ≠ 68 by decide) (show (71 : Nat) ≠ 69 by decide), rwM_c (show (72 : Nat) ≠ 68 by decide) (show (72 : Nat) ≠ 69 by decide), up_app, Nat.reduceEqDiff, Int.reduceEq, and_true, true_and, and_self, and_false, false_and, if_true, if_false, reduceIte]; omega)) (fun r175 => ?_)
            try simp only [rwM_lo (show 4 * lv + i < 4 * lv + 4 by omega), rwM_c (show (59 : Nat) ≠ 68 by decide) (show (59 : Nat) ≠ 69 by decide), rwM_c (show (70 : Nat) ≠ 68 by decide) (show (70 : Nat) ≠ 69 by decide), rwM_c (show (71 : Nat) ≠ 68 by decide) (show (71 : Nat) ≠ 69 by decide), rwM_c (show (72 : Nat) ≠ 68 by decide) (show (72 : Nat) ≠ 69 by decide), up_app, Nat.reduceEqDiff, Int.reduceEq, and_true, true_and, and_self, and_false, false_and, if_true, if_false, reduceIte] at r175 ⊢
            refine f_iastore hZ dX7_burnsOn_176 (by first | rfl | exact hC.t1 | exact hC.t2 | exact hC.t3 | exact hC.t4 | exact hC.t5) (by first | rfl | exact hC.l1 | exact hC.l2 | exact hC.l3 | exact hC.l4 | exact hC.l5) (by first | omega | (simp only [rwM_lo (show 4 * lv + i < 4 * lv + 4 by omega), rwM_c (show (59 : Nat) ≠ 68 by decide) (show (59 : Nat) ≠ 69 by decide), rwM_c (show (70 : Nat) ≠ 68 by decide) (show (70 : Nat) ≠ 69 by decide), rwM_c (show (71 : Nat) ≠ 68 by decide) (show (71 : Nat) ≠ 69 by decide), rwM_c (show (72 : Nat) ≠ 68 by decide) (show (72 : Nat) ≠ 69 by decide), up_app, Nat.reduceEqDiff, Int.reduceEq, and_true, true_and, and_self, and_false, false_and, if_true, if_false, reduceIte]; omega)) (by first | omega | (simp only [rwM_lo (show 4 * lv + i < 4 * lv + 4 by omega), rwM_c (show (59 : Nat) ≠ 68 by decide) (show (59 : Nat) ≠ 69 by decide), rwM_c (show (70 : Nat) ≠ 68 by decide) (show (70 : Nat) ≠ 69 by decide), rwM_c (show (71 : Nat) ≠ 68 by decide) (show (71 : Nat) ≠ 69 by decide), rwM_c (show (72 : Nat) ≠ 68 by decide) (show (72 : Nat) ≠ 69 by decide), up_app, Nat.reduceEqDiff, Int.reduceEq, and_true, true_and, and_self, and_false, false_and, if_true, if_false, reduceIte]; omega)) (by first | omega | (simp only [rwM_lo (show 4 * lv + i < 4 * lv + 4 by omega), rwM_c (show (59 : Nat) ≠ 68 by decide) (show (59 : Nat) ≠ 69 by decide), rwM_c (show (70 : Nat) ≠ 68 by decide) (show (70 : Nat) ≠ 69 by decide), rwM_c (show (71 : Nat) ≠ 68 by decide) (show (71 : Nat) ≠ 69 by decide), rwM_c (show (72 : Nat) ≠ 68 by decide) (show (72 : Nat) ≠ 69 by decide), up_app, Nat.reduceEqDiff, Int.reduceEq, and_true, true_and, and_self, and_false, false_and, if_true, if_false, reduceIte]; omega)) ?_
            refine f_iinc (L' := [_, _, _, _, _, _]) hZ dX7_burnsOn_177 rfl rfl ?_
            refine f_goto (tgt := 89) hZ dX7_burnsOn_180 rfl ?_
            refine f_forget (L' := [_, _, _, _, .null, .null]) ⟨Or.inl rfl, Or.inl rfl, Or.inl rfl, Or.inl rfl, Or.inr rfl, Or.inr rfl, trivial⟩ ?_
            first
              | (exfalso; omega)
              | (rw [rwM_st hi0 (by show _ = (if 0 < leftZ (mvZ M) (bs M lv) T i then leftZ (mvZ M) (bs M lv) T i else 0); rw [hlf, if_pos (by omega)]) (by show _ = (if 0 < leftZ (mvZ M) (bs M lv) T i then sl (bs M lv) i else 0); rw [hlf, if_pos (by omega), hba.2])]; exact ih (i + 1) (by omega) (by omega))
              | (rw [rwM_st hi0 (by show _ = (if 0 < leftZ (mvZ M) (bs M lv) T i then leftZ (mvZ M) (bs M lv) T i else 0); rw [hlf, if_neg (by omega)]; try omega) (by show _ = (if 0 < leftZ (mvZ M) (bs M lv) T i then sl (bs M lv) i else 0); rw [hlf, if_neg (by omega)])]; exact ih (i + 1) (by omega) (by omega))
          · refine f_iconst hZ dX7_burnsOn_165 ?_
            refine f_goto (tgt := 176) hZ dX7_burnsOn_166 rfl ?_
            refine f_iastore hZ dX7_burnsOn_176 (by first | rfl | exact hC.t1 | exact hC.t2 | exact hC.t3 | exact hC.t4 | exact hC.t5) (by first | rfl | exact hC.l1 | exact hC.l2 | exact hC.l3 | exact hC.l4 | exact hC.l5) (by first | omega | (simp only [rwM_lo (show 4 * lv + i < 4 * lv + 4 by omega), rwM_c (show (59 : Nat) ≠ 68 by decide) (show (59 : Nat) ≠ 69 by decide), rwM_c (show (70 : Nat) ≠ 68 by decide) (show (70 : Nat) ≠ 69 by decide), rwM_c (show (71 : Nat) ≠ 68 by decide) (show (71 : Nat) ≠ 69 by decide), rwM_c (show (72 : Nat) ≠ 68 by decide) (show (72 : Nat) ≠ 69 by decide), up_app, Nat.reduceEqDiff, Int.reduceEq, and_true, true_and, and_self, and_false, false_and, if_true, if_false, reduceIte]; omega)) (by first | omega | (simp only [rwM_lo (show 4 * lv + i < 4 * lv + 4 by omega), rwM_c (show (59 : Nat) ≠ 68 by decide) (show (59 : Nat) ≠ 69 by decide), rwM_c (show (70 : Nat) ≠ 68 by decide) (show (70 : Nat) ≠ 69 by decide), rwM_c (show (71 : Nat) ≠ 68 by decide) (show (71 : Nat) ≠ 69 by decide), rwM_c (show (72 : Nat) ≠ 68 by decide) (show (72 : Nat) ≠ 69 by decide), up_app, Nat.reduceEqDiff, Int.reduceEq, and_true, true_and, and_self, and_false, false_and, if_true, if_false, reduceIte]; omega)) (by first | omega | (simp only [rwM_lo (show 4 * lv + i < 4 * lv + 4 by omega), rwM_c (show (59 : Nat) ≠ 68 by decide) (show (59 : Nat) ≠ 69 by decide), rwM_c (show (70 : Nat) ≠ 68 by decide) (show (70 : Nat) ≠ 69 by decide), rwM_c (show (71 : Nat) ≠ 68 by decide) (show (71 : Nat) ≠ 69 by decide), rwM_c (show (72 : Nat) ≠ 68 by decide) (show (72 : Nat) ≠ 69 by decide), up_app, Nat.reduceEqDiff, Int.reduceEq, and_true, true_and, and_self, and_false, false_and, if_true, if_false, reduceIte]; omega)) ?_
            refine f_iinc (L' := [_, _, _, _, _, _]) hZ dX7_burnsOn_177 rfl rfl ?_
            refine f_goto (tgt := 89) hZ dX7_burnsOn_180 rfl ?_
            refine f_forget (L' := [_, _, _, _, .null, .null]) ⟨Or.inl rfl, Or.inl rfl, Or.inl rfl, Or.inl rfl, Or.inr rfl, Or.inr rfl, trivial⟩ ?_
            first
              | (exfalso; omega)
              | (rw [rwM_st hi0 (by show _ = (if 0 < leftZ (mvZ M) (bs M lv) T i then leftZ (mvZ M) (bs M lv) T i else 0); rw [hlf, if_pos (by omega)]) (by show _ = (if 0 < leftZ (mvZ M) (bs M lv) T i then sl (bs M lv) i else 0); rw [hlf, if_pos (by omega), hba.2])]; exact ih (i + 1) (by omega) (by omega))
              | (rw [rwM_st hi0 (by show _ = (if 0 < leftZ (mvZ M) (bs M lv) T i then leftZ (mvZ M) (bs M lv) T i else 0); rw [hlf, if_neg (by omega)]; try omega) (by show _ = (if 0 < leftZ (mvZ M) (bs M lv) T i then sl (bs M lv) i else 0); rw [hlf, if_neg (by omega)])]; exact ih (i + 1) (by omega) (by omega))
  have k4 : ∀ (m : Nat) (i T : Int), i + m = M 59 12 → 0 ≤ i → tmI M lv i T → fG X mX7_burnsOn Z 4 [.ref (xa X 59), .int (iv lv), .int (iv T), .int (iv i), .null, .null] [] M := by
    intro m
    induction m with
    | zero =>
      intro i T him hi0 hT
      have hi : i = M 59 12 := by omega
      subst hi
      have hTr : -1 ≤ T ∧ T ≤ 99 := by
        rcases hT with h | h <;> omega
      refine f_iload_n hZ dX7_burnsOn_4 rfl ?_
      refine f_aload_n hZ dX7_burnsOn_5 rfl ?_
      refine gX7_110 hZ dX7_burnsOn_6 (fun r6 => ?_)
      refine f_ige (tgt := 81) hZ dX7_burnsOn_9 rfl (by omega) (by omega) (fun h9 => ?_) (fun h9 => ?_)
      · refine f_iload_n hZ dX7_burnsOn_81 rfl ?_
        refine f_iconst hZ dX7_burnsOn_82 ?_
        refine f_ine (tgt := 87) hZ dX7_burnsOn_83 rfl (by omega) (by omega) (fun h83 => ?_) (fun h83 => ?_)
        · have hbT := bu_T hk hT (by omega)
          refine f_iconst hZ dX7_burnsOn_87 ?_
          refine f_istore_n (L' := [_, _, _, _, _, _]) hZ dX7_burnsOn_88 rfl rfl ?_
          have hk89 := k89 T hbT.1 hbT.2.1 hbT.2.2 (M 59 12).toNat 0 (by omega) (Int.le_refl 0)
          rw [rwM_0] at hk89
          exact hk89
        · exact f_retV hZ hR dX7_burnsOn_86 rfl (by exact bu_none hk (by rw [show (-1 : Int) = T by omega]; exact hT))
      · exfalso; omega
    | succ m ih =>
      intro i T him hi0 hT
      have hi : 0 ≤ i ∧ i < M 59 12 := by omega
      have hTr : -1 ≤ T ∧ T ≤ 99 := by
        rcases hT with h | h <;> omega
      have hA := hk.1.1.2.2.2 i hi.1 hi.2
      have hA1 := hA.1
      have hA2 := hA.2.1
      have hA3 := hA.2.2.1
      have hro := hk.2.2.1 i hi.1 hi.2
      have hro1 := hro.1
      have hro2 := hro.2.1
      clear hA hro
      have hfr := fastZ_rg (k := M 63 i) (n := M 64 i) (l := M 69 (4 * lv + i)) (d := M 59 36) (by omega) (by omega) (by omega)
      generalize htI : tmI M lv i T = tI at hT
      refine f_iload_n hZ dX7_burnsOn_4 rfl ?_
      refine f_aload_n hZ dX7_burnsOn_5 rfl ?_
      refine gX7_110 hZ dX7_burnsOn_6 (fun r6 => ?_)
      refine f_ige (tgt := 81) hZ dX7_burnsOn_9 rfl (by omega) (by omega) (fun h9 => ?_) (fun h9 => ?_)
      · exfalso; omega
      · refine f_iconst hZ dX7_burnsOn_12 ?_
        refine f_iload_n hZ dX7_burnsOn_13 rfl ?_
        refine f_imul hZ dX7_burnsOn_14 ?_
        refine f_iload_n hZ dX7_burnsOn_15 rfl ?_
        refine f_iadd hZ dX7_burnsOn_16 ?_
        refine f_istore (L' := [_, _, _, _, _, _]) hZ dX7_burnsOn_17 rfl rfl ?_
        refine f_aload_n hZ dX7_burnsOn_19 rfl ?_
        refine gX7_41 hZ dX7_burnsOn_20 ?_
        refine f_iload hZ dX7_burnsOn_23 rfl ?_
        refine f_iaload hZ dX7_burnsOn_25 (by first | rfl | exact hC.t1 | exact hC.t2 | exact hC.t3 | exact hC.t4 | exact hC.t5) (by first | rfl | exact hC.l1 | exact hC.l2 | exact hC.l3 | exact hC.l4 | exact hC.l5) (by omega) (by omega) (fun r25 => ?_)
        refine f_le (tgt := 75) hZ dX7_burnsOn_26 rfl (by omega) (fun h26 => ?_) (fun h26 => ?_)
        · refine f_iinc (L' := [_, _, _, _, _, _]) hZ dX7_burnsOn_75 rfl rfl ?_
          refine f_goto (tgt := 4) hZ dX7_burnsOn_78 rfl ?_
          refine f_forget (L' := [_, _, _, _, .null, .null]) ⟨Or.inl rfl, Or.inl rfl, Or.inl rfl, Or.inl rfl, Or.inr rfl, Or.inr rfl, trivial⟩ ?_
          rw [← htI] at hT
          first
            | (have hl0 : M 69 (4 * lv + i) = 0 := by omega
               exact ih (i + 1) _ (by omega) (by omega) (tmI.skip hi0 hi.2 hT hl0))
            | (have hq1 : T = -1 := by omega
               exact ih (i + 1) _ (by omega) (by omega) (tmI.go hk hi0 hi.2 hT (by omega) (t := a52) (by rw [h52, h49]; rfl) (Or.inl ⟨Or.inl hq1, rfl⟩)))
            | (have hq1 : a52 < T := by omega
               exact ih (i + 1) _ (by omega) (by omega) (tmI.go hk hi0 hi.2 hT (by omega) (t := a52) (by rw [h52, h49]; rfl) (Or.inl ⟨Or.inr hq1, rfl⟩)))
            | (have hq1 : ¬ a52 < T := by omega
               exact ih (i + 1) _ (by omega) (by omega) (tmI.go hk hi0 hi.2 hT (by omega) (t := a52) (by rw [h52, h49]; rfl) (Or.inr ⟨by omega, hq1, rfl⟩)))
        · refine f_aload_n hZ dX7_burnsOn_29 rfl ?_
          refine gX7_38 hZ dX7_burnsOn_30 ?_
          refine f_iload hZ dX7_burnsOn_33 rfl ?_
          refine f_iaload hZ dX7_burnsOn_35 (by first | rfl | exact hC.t1 | exact hC.t2 | exact hC.t3 | exact hC.t4 | exact hC.t5) (by first | rfl | exact hC.l1 | exact hC.l2 | exact hC.l3 | exact hC.l4 | exact hC.l5) (by omega) (by omega) (fun r35 => ?_)
          refine f_aload_n hZ dX7_burnsOn_36 rfl ?_
          refine f_iload_n hZ dX7_burnsOn_37 rfl ?_
          refine f_aload_n hZ dX7_burnsOn_38 rfl ?_
          refine gX7_41 hZ dX7_burnsOn_39 ?_
          refine f_iload hZ dX7_burnsOn_42 rfl ?_
          refine f_iaload hZ dX7_burnsOn_44 (by first | rfl | exact hC.t1 | exact hC.t2 | exact hC.t3 | exact hC.t4 | exact hC.t5) (by first | rfl | exact hC.l1 | exact hC.l2 | exact hC.l3 | exact hC.l4 | exact hC.l5) (by omega) (by omega) (fun r44 => ?_)
          refine f_aload_n hZ dX7_burnsOn_45 rfl ?_
          refine gX7_289 hZ dX7_burnsOn_46 (fun r46 => ?_)
          refine vX7_145 hZ dX7_burnsOn_49 (t_X7_fast (by omega) hA1 hA2 (by omega) (by omega)) (fun a49 M49 r49 h49 => ?_)
          obtain ⟨e49, h49⟩ := h49
          replace e49 := e49.symm
          subst e49
          refine sX7_283 hZ dX7_burnsOn_52 (t_X7_until (by omega) (by have := hfr.2.2 (by omega); omega)) (fun a52 M52 r52 h52 => ?_)
          obtain ⟨e52, h52⟩ := h52
          replace e52 := e52.symm
          subst e52
          refine f_istore (L' := [_, _, _, _, _, _]) hZ dX7_burnsOn_55 rfl rfl ?_
          refine f_iload_n hZ dX7_burnsOn_57 rfl ?_
          refine f_iconst hZ dX7_burnsOn_58 ?_
          refine f_ieq (tgt := 68) hZ dX7_burnsOn_59 rfl (by omega) (by omega) (fun h59 => ?_) (fun h59 => ?_)
          · refine f_iload hZ dX7_burnsOn_68 rfl ?_
            refine f_goto (tgt := 74) hZ dX7_burnsOn_70 rfl ?_
            refine f_istore_n (L' := [_, _, _, _, _, _]) hZ dX7_burnsOn_74 rfl rfl ?_
            refine f_iinc (L' := [_, _, _, _, _, _]) hZ dX7_burnsOn_75 rfl rfl ?_
            refine f_goto (tgt := 4) hZ dX7_burnsOn_78 rfl ?_
            refine f_forget (L' := [_, _, _, _, .null, .null]) ⟨Or.inl rfl, Or.inl rfl, Or.inl rfl, Or.inl rfl, Or.inr rfl, Or.inr rfl, trivial⟩ ?_
            rw [← htI] at hT
            first
              | (have hl0 : M 69 (4 * lv + i) = 0 := by omega
                 exact ih (i + 1) _ (by omega) (by omega) (tmI.skip hi0 hi.2 hT hl0))
              | (have hq1 : T = -1 := by omega
                 exact ih (i + 1) _ (by omega) (by omega) (tmI.go hk hi0 hi.2 hT (by omega) (t := a52) (by rw [h52, h49]; rfl) (Or.inl ⟨Or.inl hq1, rfl⟩)))
              | (have hq1 : a52 < T := by omega
                 exact ih (i + 1) _ (by omega) (by omega) (tmI.go hk hi0 hi.2 hT (by omega) (t := a52) (by rw [h52, h49]; rfl) (Or.inl ⟨Or.inr hq1, rfl⟩)))
              | (have hq1 : ¬ a52 < T := by omega
                 exact ih (i + 1) _ (by omega) (by omega) (tmI.go hk hi0 hi.2 hT (by omega) (t := a52) (by rw [h52, h49]; rfl) (Or.inr ⟨by omega, hq1, rfl⟩)))
          · refine f_iload hZ dX7_burnsOn_62 rfl ?_
            refine f_iload_n hZ dX7_burnsOn_64 rfl ?_
            refine f_ige (tgt := 73) hZ dX7_burnsOn_65 rfl (by omega) (by omega) (fun h65 => ?_) (fun h65 => ?_)
            · refine f_iload_n hZ dX7_burnsOn_73 rfl ?_
              refine f_istore_n (L' := [_, _, _, _, _, _]) hZ dX7_burnsOn_74 rfl rfl ?_
              refine f_iinc (L' := [_, _, _, _, _, _]) hZ dX7_burnsOn_75 rfl rfl ?_
              refine f_goto (tgt := 4) hZ dX7_burnsOn_78 rfl ?_
              refine f_forget (L' := [_, _, _, _, .null, .null]) ⟨Or.inl rfl, Or.inl rfl, Or.inl rfl, Or.inl rfl, Or.inr rfl, Or.inr rfl, trivial⟩ ?_
              rw [← htI] at hT
              first
                | (have hl0 : M 69 (4 * lv + i) = 0 := by omega
                   exact ih (i + 1) _ (by omega) (by omega) (tmI.skip hi0 hi.2 hT hl0))
                | (have hq1 : T = -1 := by omega
                   exact ih (i + 1) _ (by omega) (by omega) (tmI.go hk hi0 hi.2 hT (by omega) (t := a52) (by rw [h52, h49]; rfl) (Or.inl ⟨Or.inl hq1, rfl⟩)))
                | (have hq1 : a52 < T := by omega
                   exact ih (i + 1) _ (by omega) (by omega) (tmI.go hk hi0 hi.2 hT (by omega) (t := a52) (by rw [h52, h49]; rfl) (Or.inl ⟨Or.inr hq1, rfl⟩)))
                | (have hq1 : ¬ a52 < T := by omega
                   exact ih (i + 1) _ (by omega) (by omega) (tmI.go hk hi0 hi.2 hT (by omega) (t := a52) (by rw [h52, h49]; rfl) (Or.inr ⟨by omega, hq1, rfl⟩)))
            · refine f_iload hZ dX7_burnsOn_68 rfl ?_
              refine f_goto (tgt := 74) hZ dX7_burnsOn_70 rfl ?_
              refine f_istore_n (L' := [_, _, _, _, _, _]) hZ dX7_burnsOn_74 rfl rfl ?_
              refine f_iinc (L' := [_, _, _, _, _, _]) hZ dX7_burnsOn_75 rfl rfl ?_
              refine f_goto (tgt := 4) hZ dX7_burnsOn_78 rfl ?_
              refine f_forget (L' := [_, _, _, _, .null, .null]) ⟨Or.inl rfl, Or.inl rfl, Or.inl rfl, Or.inl rfl, Or.inr rfl, Or.inr rfl, trivial⟩ ?_
              rw [← htI] at hT
              first
                | (have hl0 : M 69 (4 * lv + i) = 0 := by omega
                   exact ih (i + 1) _ (by omega) (by omega) (tmI.skip hi0 hi.2 hT hl0))
                | (have hq1 : T = -1 := by omega
                   exact ih (i + 1) _ (by omega) (by omega) (tmI.go hk hi0 hi.2 hT (by omega) (t := a52) (by rw [h52, h49]; rfl) (Or.inl ⟨Or.inl hq1, rfl⟩)))
                | (have hq1 : a52 < T := by omega
                   exact ih (i + 1) _ (by omega) (by omega) (tmI.go hk hi0 hi.2 hT (by omega) (t := a52) (by rw [h52, h49]; rfl) (Or.inl ⟨Or.inr hq1, rfl⟩)))
                | (have hq1 : ¬ a52 < T := by omega
                   exact ih (i + 1) _ (by omega) (by omega) (tmI.go hk hi0 hi.2 hT (by omega) (t := a52) (by rw [h52, h49]; rfl) (Or.inr ⟨by omega, hq1, rfl⟩)))
  refine f_iconst hZ dX7_burnsOn_0 ?_
  refine f_istore_n (L' := [_, _, _, _, _, _]) hZ dX7_burnsOn_1 rfl rfl ?_
  refine f_iconst hZ dX7_burnsOn_2 ?_
  refine f_istore_n (L' := [_, _, _, _, _, _]) hZ dX7_burnsOn_3 rfl rfl ?_
  exact k4 (M 59 12).toNat 0 (-1) (by omega) (Int.le_refl 0) (Or.inl ⟨rfl, rfl⟩)

theorem lv_top {M : fM} {W : Int → pV} {lv : Int} (hk : lvOk M W lv (M 59 12)) (h : 3 < lv) : ∀ N, lvOk N W (lv + 1) 0 → False := fun N hN => by
  have := hN.2.1.1.2
  have := hk.2.1.1
  omega
/-- all lights, by levels and wicks -/
theorem t_X7_lights {X : fX} {W : Int → pV} {n : Int} (h4 : n ≤ 4) : ∀ (d : Nat) (k : Nat) (m : Nat) (M : fM) (lv w : Int), lv = 4 - (k : Int) → w = n - (m : Int) → M 59 12 = n → lvOk M W lv w → fC X (d + 6 * k + m + 51) mX7_lights [.ref (xa X 59), .int (iv lv), .int (iv w)] M (QV fun K => liP M W lv w K)
  | d, k, m + 1, M, lv, w, hl, hw, hn, hk => by
    have hN : ∀ N, lvOk N W lv (w + 1) → N 59 12 = M 59 12 → fC X (d + 6 * k + m + 51) mX7_lights [.ref (xa X 59), .int (iv lv), .int (iv (w + 1))] N (QV fun K => liP N W lv (w + 1) K) := fun N h1 h2 => t_X7_lights h4 d k m N lv (w + 1) hl (by omega) (by omega) h1
    exact (t_lights_s (d := d + 6 * k + m + 2) hk (by omega) (fun N h1 h2 => (hN N h1 h2).dep (by omega))).dep (by omega)
  | d, 0, 0, M, lv, w, hl, hw, hn, hk => by
    have hw2 : w = M 59 12 := by omega
    subst hw2
    exact (t_lights_n (D := d + 50) hk rfl (t_X7_burnsOn (D := d + 49) hk (fun N h1 _ => (lv_top hk (by omega) N h1).elim))).dep (by omega)
  | d, k + 1, 0, M, lv, w, hl, hw, hn, hk => by
    have hw2 : w = M 59 12 := by omega
    subst hw2
    have hL : ∀ N, lvOk N W (lv + 1) 0 → N 59 12 = M 59 12 → fC X (d + (4 - n.toNat) + 6 * k + n.toNat + 51) mX7_lights [.ref (xa X 59), .int (iv (lv + 1)), .int (iv 0)] N (QV fun K => liP N W (lv + 1) 0 K) := fun N h1 h2 => t_X7_lights h4 (d + (4 - n.toNat)) k n.toNat N (lv + 1) 0 (by omega) (by have := hk.1.1.1; omega) (by omega) h1
    exact (t_lights_n (D := d + 6 * k + 56) hk rfl (t_X7_burnsOn (D := d + 6 * k + 55) hk (fun N h1 h2 => (hL N h1 h2).dep (by have := hk.1.1.1; omega)))).dep (by omega)
  termination_by d k m => (k, m)
