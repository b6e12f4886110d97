abbrev bMc (M : fM) (c : Nat) (n k : Int) : fM := burnG (c + 3) (c + 4) (c + 5) (M (c + 1)) (M (c + 2)) (M (c + 3)) (M (c + 4)) (M (c + 5)) (M c 6) n k M
abbrev bOc (M : fM) (c : Nat) (n : Int) : Int → Int := burnO (M (c + 1)) (M (c + 2)) (M (c + 3)) (M (c + 4)) (M c 6) n
abbrev goE (M : fM) (c : Nat) (n w : Int) : Int := min (M (c + 3) w) (fastZ (M (c + 1) w) (M (c + 2) w) (M (c + 4) w) (M c 6) * n)
def goM (M : fM) (c : Nat) (n w : Int) : fM := up (up M (c + 3) w (M (c + 3) w - goE M c n w)) (c + 5) w (min 999 (M (c + 5) w + goE M c n w))
theorem WfA.here {n : Int} {K N P L B : Int → Int} (h : WfA n K N P L B) {w : Int} (h0 : 0 ≤ w) (h1 : w < n) : (0 ≤ K w ∧ K w ≤ 5) ∧ (0 ≤ N w ∧ N w ≤ 9) ∧ (0 ≤ P w ∧ P w ≤ 99) ∧ (0 ≤ L w ∧ L w ≤ 2) ∧ (0 ≤ B w ∧ B w ≤ 999) ∧ (P w = 0 → L w = 0) := h w h0 h1
set_option maxRecDepth 20000 in
set_option maxHeartbeats 4000000 in
theorem t_X0_goesOut {X : fX} {M : fM} {d c : Nat} (hC : isC c) {w n : Int} (hw : 0 ≤ w ∧ w < M c 5) (hnn : 0 ≤ n ∧ n ≤ 250) (hd : 0 ≤ M c 6 ∧ M c 6 ≤ 9) (hn : 0 ≤ M c 5 ∧ M c 5 ≤ 4) (hA : WfA (M c 5) (M (c + 1)) (M (c + 2)) (M (c + 3)) (M (c + 4)) (M (c + 5))) : fC X (d + 2) mX0_goesOut [.ref (xa X c), .int (iv w), .int (iv n)] M (QI fun r M' => (r = 0 ∧ 0 < M (c + 3) w - goE M c n w ∧ M' = goM M c n w) ∨ (r = 1 ∧ M (c + 3) w - goE M c n w = 0 ∧ M' = up (goM M c n w) (c + 4) w 0)) := by
  refine fC.of (L := [_, _, _, _]) (by decide +kernel) rfl (Nat.le_of_ble_eq_true rfl) (fun Z hZ hR => ?_)
  have hq := hA w (by omega) (by omega)
  refine f_aload_n hZ dX0_goesOut_0 rfl ?_
  refine gX0_18 hZ dX0_goesOut_1 (by first | exact hC | exact isC1 | exact isC7 | exact isC13) ?_
  refine f_iload_n hZ dX0_goesOut_4 rfl ?_
  refine f_iaload hZ dX0_goesOut_5 (by first | rfl | exact hC.t1 | exact hC.t2 | exact hC.t3 | exact hC.t4 | exact hC.t5) (by first | rfl | exact hC.l1 | exact hC.l2 | exact hC.l3 | exact hC.l4 | exact hC.l5) (by omega) (by omega) (fun r5 => ?_)
  refine f_iload_n hZ dX0_goesOut_6 rfl ?_
  refine f_aload_n hZ dX0_goesOut_7 rfl ?_
  refine f_iload_n hZ dX0_goesOut_8 rfl ?_
  refine f_aload_n hZ dX0_goesOut_9 rfl ?_
  refine gX0_21 hZ dX0_goesOut_10 (by first | exact hC | exact isC1 | exact isC7 | exact isC13) ?_
  refine f_iload_n hZ dX0_goesOut_13 rfl ?_
  refine f_iaload hZ dX0_goesOut_14 (by first | rfl | exact hC.t1 | exact hC.t2 | exact hC.t3 | exact hC.t4 | exact hC.t5) (by first | rfl | exact hC.l1 | exact hC.l2 | exact hC.l3 | exact hC.l4 | exact hC.l5) (by omega) (by omega) (fun r14 => ?_)
  refine f_aload_n hZ dX0_goesOut_15 rfl ?_
  refine gX0_31 hZ dX0_goesOut_16 (by first | exact hC | exact isC1 | exact isC7 | exact isC13) (fun r16 => ?_)
  refine vX0_64 hZ dX0_goesOut_19 (by first | exact hC | exact isC1 | exact isC7 | exact isC13) (t_X0_fast hC (by omega) (by omega) (by omega) (by omega) hA) (fun a19 M19 r19 h19 => ?_)
  obtain ⟨e19, h19⟩ := h19
  replace e19 := e19.symm
  subst e19
  rw [if_pos hw] at h19
  have hF := fastZ_rg (k := M (c + 1) w) (n := M (c + 2) w) (l := M (c + 4) w) (by omega) (by omega) hd
  subst h19
  have hE := eat_rg (F := fastZ (M (c + 1) w) (M (c + 2) w) (M (c + 4) w) (M c 6)) (by omega) hnn
  rw [Int.mul_comm] at hE
  refine f_imul hZ dX0_goesOut_22 ?_
  refine f_min hZ dX0_goesOut_23 wk_X0_71 (by omega) (by omega) (Nat.le_of_ble_eq_true rfl) ?_
  refine f_istore_n (L' := [_, _, _, _]) hZ dX0_goesOut_26 rfl rfl ?_
  refine f_aload_n hZ dX0_goesOut_27 rfl ?_
  refine gX0_18 hZ dX0_goesOut_28 (by first | exact hC | exact isC1 | exact isC7 | exact isC13) ?_
  refine f_iload_n hZ dX0_goesOut_31 rfl ?_
  refine f_dup2 hZ dX0_goesOut_32 rfl rfl ?_
  refine f_iaload hZ dX0_goesOut_33 (by first | rfl | exact hC.t1 | exact hC.t2 | exact hC.t3 | exact hC.t4 | exact hC.t5) (by first | rfl | exact hC.l1 | exact hC.l2 | exact hC.l3 | exact hC.l4 | exact hC.l5) (by omega) (by omega) (fun r33 => ?_)
  refine f_iload_n hZ dX0_goesOut_34 rfl ?_
  refine f_isub hZ dX0_goesOut_35 ?_
  refine f_iastore hZ dX0_goesOut_36 (by first | rfl | exact hC.t1 | exact hC.t2 | exact hC.t3 | exact hC.t4 | exact hC.t5) (by first | rfl | exact hC.l1 | exact hC.l2 | exact hC.l3 | exact hC.l4 | exact hC.l5) (by omega) (by omega) (by omega) ?_
  refine f_aload_n hZ dX0_goesOut_37 rfl ?_
  refine gX0_24 hZ dX0_goesOut_38 (by first | exact hC | exact isC1 | exact isC7 | exact isC13) ?_
  refine f_iload_n hZ dX0_goesOut_41 rfl ?_
  refine f_sipush hZ dX0_goesOut_42 ?_
  refine f_aload_n hZ dX0_goesOut_45 rfl ?_
  refine gX0_24 hZ dX0_goesOut_46 (by first | exact hC | exact isC1 | exact isC7 | exact isC13) ?_
  refine f_iload_n hZ dX0_goesOut_49 rfl ?_
  refine f_iaload hZ dX0_goesOut_50 (by first | rfl | exact hC.t1 | exact hC.t2 | exact hC.t3 | exact hC.t4 | exact hC.t5) (by first | rfl | exact hC.l1 | exact hC.l2 | exact hC.l3 | exact hC.l4 | exact hC.l5) (by omega) (by omega) (fun r50 => ?_)
  try simp only [up_app, Nat.add_left_cancel_iff, Nat.left_eq_add, Nat.add_eq_left, Nat.reduceEqDiff, Int.reduceEq, and_true, true_and, and_self, and_false, false_and, if_true, if_false, reduceIte] at r50 ⊢
  refine f_iload_n hZ dX0_goesOut_51 rfl ?_
  refine f_iadd hZ dX0_goesOut_52 ?_
  refine f_min hZ dX0_goesOut_53 wk_X0_71 (by omega) (by omega) (Nat.le_of_ble_eq_true rfl) ?_
  refine f_iastore hZ dX0_goesOut_56 (by first | rfl | exact hC.t1 | exact hC.t2 | exact hC.t3 | exact hC.t4 | exact hC.t5) (by first | rfl | exact hC.l1 | exact hC.l2 | exact hC.l3 | exact hC.l4 | exact hC.l5) (by omega) (by omega) (by omega) ?_
  refine f_aload_n hZ dX0_goesOut_57 rfl ?_
  refine gX0_18 hZ dX0_goesOut_58 (by first | exact hC | exact isC1 | exact isC7 | exact isC13) ?_
  refine f_iload_n hZ dX0_goesOut_61 rfl ?_
  refine f_iaload hZ dX0_goesOut_62 (by first | rfl | exact hC.t1 | exact hC.t2 | exact hC.t3 | exact hC.t4 | exact hC.t5) (by first | rfl | exact hC.l1 | exact hC.l2 | exact hC.l3 | exact hC.l4 | exact hC.l5) (by omega) (by omega) (fun r62 => ?_)
  try simp only [up_app, Nat.add_left_cancel_iff, Nat.left_eq_add, Nat.add_eq_left, Nat.reduceEqDiff, Int.reduceEq, and_true, true_and, and_self, and_false, false_and, if_true, if_false, reduceIte] at r62 ⊢
  refine f_le (tgt := 68) hZ dX0_goesOut_63 rfl (by omega) (fun h63 => ?_) (fun h63 => ?_)
  · refine f_aload_n hZ dX0_goesOut_68 rfl ?_
    refine gX0_21 hZ dX0_goesOut_69 (by first | exact hC | exact isC1 | exact isC7 | exact isC13) ?_
    refine f_iload_n hZ dX0_goesOut_72 rfl ?_
    refine f_iconst hZ dX0_goesOut_73 ?_
    refine f_iastore hZ dX0_goesOut_74 (by first | rfl | exact hC.t1 | exact hC.t2 | exact hC.t3 | exact hC.t4 | exact hC.t5) (by first | rfl | exact hC.l1 | exact hC.l2 | exact hC.l3 | exact hC.l4 | exact hC.l5) (by omega) (by omega) (by omega) ?_
    refine f_iconst hZ dX0_goesOut_75 ?_
    exact f_retZ hZ hR dX0_goesOut_76 rfl (by omega) (by unfold goM goE; rw [Int.mul_comm (fastZ _ _ _ _) n]; first | exact Or.inl ⟨rfl, by omega, rfl⟩ | exact Or.inr ⟨rfl, by omega, rfl⟩)
  · refine f_iconst hZ dX0_goesOut_66 ?_
    exact f_retZ hZ hR dX0_goesOut_67 rfl (by omega) (by unfold goM goE; rw [Int.mul_comm (fastZ _ _ _ _) n]; first | exact Or.inl ⟨rfl, by omega, rfl⟩ | exact Or.inr ⟨rfl, by omega, rfl⟩)

theorem bMc_w {M : fM} {c q : Nat} {n w : Int} : bMc M c n w q w = M q w := burnG_w
theorem bMc_f {M : fM} {c : Nat} {n k i : Int} : bMc M c n k c i = M c i := burnG_ne (by omega)
theorem bMc_1 {M : fM} {c : Nat} {n k i : Int} : bMc M c n k (c + 1) i = M (c + 1) i := burnG_ne (by omega)
theorem bMc_2 {M : fM} {c : Nat} {n k i : Int} : bMc M c n k (c + 2) i = M (c + 2) i := burnG_ne (by omega)
theorem burnP_rg {K N P L B : Int → Int} {dmp n i : Int} (hn : 0 ≤ n ∧ n ≤ 250) (hd : 0 ≤ dmp ∧ dmp ≤ 9) (hq : (0 ≤ K i ∧ K i ≤ 5) ∧ (0 ≤ N i ∧ N i ≤ 9) ∧ (0 ≤ P i ∧ P i ≤ 99) ∧ (0 ≤ L i ∧ L i ≤ 2) ∧ (0 ≤ B i ∧ B i ≤ 999) ∧ (P i = 0 → L i = 0)) :
    (0 ≤ K i ∧ K i ≤ 5) ∧ (0 ≤ N i ∧ N i ≤ 9) ∧ (0 ≤ burnP K N P L dmp n i ∧ burnP K N P L dmp n i ≤ 99) ∧ (0 ≤ burnL K N P L dmp n i ∧ burnL K N P L dmp n i ≤ 2) ∧ (0 ≤ burnB K N P L B dmp n i ∧ burnB K N P L B dmp n i ≤ 999) ∧ (burnP K N P L dmp n i = 0 → burnL K N P L dmp n i = 0) := by
  have hF := fastZ_rg (k := K i) (n := N i) (l := L i) (d := dmp) hq.2.2.2.1 hq.2.1 hd
  have hE := eat_rg (F := fastZ (K i) (N i) (L i) dmp) (by omega) hn
  unfold burnP burnL burnB burnE
  by_cases h1 : 0 < L i
  · by_cases h2 : P i - min (P i) (fastZ (K i) (N i) (L i) dmp * n) = 0
    · rw [if_pos h1, if_pos h1, if_pos ⟨h1, h2⟩]; omega
    · rw [if_pos h1, if_pos h1, if_neg (fun q => h2 q.2)]; omega
  · rw [if_neg h1, if_neg h1, if_neg (fun q => h1 q.1)]; omega
theorem WfA.burn {m k : Int} {K N P L B : Int → Int} {dmp n : Int} {M : fM} {cp cl cb ck cn : Nat} (hk1 : ck ≠ cp ∧ ck ≠ cl ∧ ck ≠ cb) (hk2 : cn ≠ cp ∧ cn ≠ cl ∧ cn ≠ cb) (h12 : cl ≠ cp ∧ cb ≠ cp ∧ cb ≠ cl) (e1 : M ck = K) (e2 : M cn = N) (e3 : M cp = P) (e4 : M cl = L) (e5 : M cb = B) (hn : 0 ≤ n ∧ n ≤ 250) (hd : 0 ≤ dmp ∧ dmp ≤ 9) (h : WfA m K N P L B) :
    WfA m (burnG cp cl cb K N P L B dmp n k M ck) (burnG cp cl cb K N P L B dmp n k M cn) (burnG cp cl cb K N P L B dmp n k M cp) (burnG cp cl cb K N P L B dmp n k M cl) (burnG cp cl cb K N P L B dmp n k M cb) := by
  intro i h0 h1
  have hq := h i h0 h1
  rw [burnG_ne hk1, burnG_ne hk2, e1, e2]
  by_cases hi : 0 ≤ i ∧ i < k
  · have e3' : burnG cp cl cb K N P L B dmp n k M cp i = burnP K N P L dmp n i := by unfold burnG; rw [if_pos hi, if_pos rfl]
    have e4' : burnG cp cl cb K N P L B dmp n k M cl i = burnL K N P L dmp n i := by unfold burnG; rw [if_pos hi, if_neg h12.1, if_pos rfl]
    have e5' : burnG cp cl cb K N P L B dmp n k M cb i = burnB K N P L B dmp n i := by unfold burnG; rw [if_pos hi, if_neg h12.2.1, if_neg h12.2.2, if_pos rfl]
    rw [e3', e4', e5']
    exact burnP_rg hn hd hq
  · have hg : k ≤ i := by omega
    rw [burnG_ge hg, burnG_ge hg, burnG_ge hg, e3, e4, e5]
    exact hq
theorem pass_step {M M' : fM} {c : Nat} {n w a : Int} (h0 : 0 ≤ w) (hL : 0 < M (c + 4) w) (h : (a = 0 ∧ 0 < bMc M c n w (c + 3) w - goE (bMc M c n w) c n w ∧ M' = goM (bMc M c n w) c n w) ∨ (a = 1 ∧ bMc M c n w (c + 3) w - goE (bMc M c n w) c n w = 0 ∧ M' = up (goM (bMc M c n w) c n w) (c + 4) w 0)) : M' = bMc M c n (w + 1) ∧ a = bOc M c n w := by
  have e : goE (bMc M c n w) c n w = burnE (M (c + 1)) (M (c + 2)) (M (c + 3)) (M (c + 4)) (M c 6) n w := by
    unfold goE burnE
    rw [bMc_f, bMc_1, bMc_2, bMc_w, bMc_w]
  rw [e, bMc_w] at h
  rcases h with ⟨rfl, hz, rfl⟩ | ⟨rfl, hz, rfl⟩
  · refine ⟨?_, (if_neg (by omega)).symm⟩
    unfold goM
    rw [e, bMc_w, bMc_w]
    exact burnG_b h0 (by omega) (by omega) (by omega) rfl (if_pos hL).symm (if_pos hL).symm (if_neg (by omega)).symm
  · refine ⟨?_, (if_pos ⟨hL, hz⟩).symm⟩
    unfold goM
    rw [e, bMc_w, bMc_w]
    exact burnG_c h0 (by omega) (by omega) (by omega) (if_pos hL).symm (if_pos hL).symm (if_pos ⟨hL, hz⟩).symm
set_option maxRecDepth 20000 in
set_option maxHeartbeats 4000000 in
theorem t_X0_pass {X : fX} {M : fM} {d c : Nat} (hC : isC c) {n : Int} (hnn : 0 ≤ n ∧ n ≤ 250) (hW : WfC M c) : fC X (d + 3) mX0_pass [.ref (xa X c), .int (iv n)] M (QI fun r M' => r = sumZ (bOc M c n) (M c 5) ∧ M' = up (bMc M c n (M c 5)) c 7 (min 9999 (M c 7 + n))) := by
  obtain ⟨hn, hdm, hmo, hA⟩ := hW
  refine fC.of (L := [_, _, _, _]) (by decide +kernel) rfl (Nat.le_of_ble_eq_true rfl) (fun Z hZ hR => ?_)
  have hO : ∀ w, 0 ≤ w → w ≤ M c 5 → 0 ≤ sumZ (bOc M c n) w ∧ sumZ (bOc M c n) w ≤ 4 := fun w h0 h1 => by
    have := sumZ_bd (f := bOc M c n) (a := 0) (b := 1) (by omega) (by omega) h0 (fun i _ _ => by unfold bOc burnO; split <;> omega)
    omega
  have loop : ∀ (m : Nat) (w : Int) , 0 ≤ w → w + m = M c 5 →  fG X mX0_pass Z 4 [.ref (xa X c), .int (iv n), .int (iv (sumZ (bOc M c n) w)), .int (iv w)] [] (bMc M c n w) := by
    intro m
    induction m with
    | zero =>
      intro w  h0 hw 
      have hOw := hO w h0 (by omega)
      refine f_iload_n hZ dX0_pass_4 rfl ?_
      refine f_aload_n hZ dX0_pass_5 rfl ?_
      refine gX0_27 hZ dX0_pass_6 (by first | exact hC | exact isC1 | exact isC7 | exact isC13) (fun r6 => ?_)
      try simp only [burnG_w, bMc_f, bMc_1, bMc_2, up_app, Nat.add_left_cancel_iff, Nat.left_eq_add, Nat.add_eq_left, Nat.reduceEqDiff, Int.reduceEq, and_true, true_and, and_self, and_false, false_and, if_true, if_false, reduceIte] at r6 ⊢
      refine f_ige (tgt := 39) hZ dX0_pass_9 rfl (by omega) (by omega) (fun h9 => ?_) (fun h9 => ?_)
      · refine f_aload_n hZ dX0_pass_39 rfl ?_
        refine f_sipush hZ dX0_pass_40 ?_
        refine f_aload_n hZ dX0_pass_43 rfl ?_
        refine gX0_34 hZ dX0_pass_44 (by first | exact hC | exact isC1 | exact isC7 | exact isC13) (fun r44 => ?_)
        try simp only [burnG_w, bMc_f, bMc_1, bMc_2, up_app, Nat.add_left_cancel_iff, Nat.left_eq_add, Nat.add_eq_left, Nat.reduceEqDiff, Int.reduceEq, and_true, true_and, and_self, and_false, false_and, if_true, if_false, reduceIte] at r44 ⊢
        refine f_iload_n hZ dX0_pass_47 rfl ?_
        refine f_iadd hZ dX0_pass_48 ?_
        refine f_min hZ dX0_pass_49 wk_X0_71 (by omega) (by omega) (Nat.le_of_ble_eq_true rfl) ?_
        refine pX0_34 hZ dX0_pass_52 (by first | exact hC | exact isC1 | exact isC7 | exact isC13) (by omega) ?_
        refine f_iload_n hZ dX0_pass_55 rfl ?_
        exact f_retI hZ hR dX0_pass_56 rfl (by omega) (by have hwe : w = M c 5 := (by omega); subst hwe; exact ⟨rfl, rfl⟩)
      · exfalso; omega
    | succ m ih =>
      intro w  h0 hw 
      have hOw := hO w h0 (by omega)
      refine f_iload_n hZ dX0_pass_4 rfl ?_
      refine f_aload_n hZ dX0_pass_5 rfl ?_
      refine gX0_27 hZ dX0_pass_6 (by first | exact hC | exact isC1 | exact isC7 | exact isC13) (fun r6 => ?_)
      try simp only [burnG_w, bMc_f, bMc_1, bMc_2, up_app, Nat.add_left_cancel_iff, Nat.left_eq_add, Nat.add_eq_left, Nat.reduceEqDiff, Int.reduceEq, and_true, true_and, and_self, and_false, false_and, if_true, if_false, reduceIte] at r6 ⊢
      refine f_ige (tgt := 39) hZ dX0_pass_9 rfl (by omega) (by omega) (fun h9 => ?_) (fun h9 => ?_)
      · exfalso; omega
      · have hq := hA w (by omega) (by omega)
        refine f_aload_n hZ dX0_pass_12 rfl ?_
        refine gX0_21 hZ dX0_pass_13 (by first | exact hC | exact isC1 | exact isC7 | exact isC13) ?_
        refine f_iload_n hZ dX0_pass_16 rfl ?_
        refine f_iaload hZ dX0_pass_17 (by first | rfl | exact hC.t1 | exact hC.t2 | exact hC.t3 | exact hC.t4 | exact hC.t5) (by first | rfl | exact hC.l1 | exact hC.l2 | exact hC.l3 | exact hC.l4 | exact hC.l5) (by omega) (by omega) (fun r17 => ?_)
        try simp only [burnG_w, bMc_f, bMc_1, bMc_2, up_app, Nat.add_left_cancel_iff, Nat.left_eq_add, Nat.add_eq_left, Nat.reduceEqDiff, Int.reduceEq, and_true, true_and, and_self, and_false, false_and, if_true, if_false, reduceIte] at r17 ⊢
        refine f_le (tgt := 33) hZ dX0_pass_18 rfl (by omega) (fun h18 => ?_) (fun h18 => ?_)
        · refine f_iinc (L' := [_, _, _, _]) hZ dX0_pass_33 rfl rfl ?_
          refine f_goto (tgt := 4) hZ dX0_pass_36 rfl ?_
          have hh := ih (w + 1) (by omega) (by omega)
          rw [sumZ_succ _ (by omega)] at hh
          first
            | (rw [show bOc M c n w = 0 from if_neg (by omega), Int.add_zero] at hh; exact f_eqM (burnG_a (by omega) (by omega) (by omega) (by omega) rfl rfl rfl (by omega)) hh)
            | (rw [show bOc M c n w = 0 by omega, Int.add_zero] at hh; exact hh)
            | (rw [show bOc M c n w = 1 by omega] at hh; exact hh)
        · refine f_aload_n hZ dX0_pass_21 rfl ?_
          refine f_iload_n hZ dX0_pass_22 rfl ?_
          refine f_iload_n hZ dX0_pass_23 rfl ?_
          refine vX0_67 hZ dX0_pass_24 (by first | exact hC | exact isC1 | exact isC7 | exact isC13) (fC.mono (t_X0_goesOut hC (by simp only [bMc_f]; omega) hnn (by simp only [bMc_f]; omega) (by simp only [bMc_f]; omega) (by rw [bMc_f]; exact WfA.burn (by omega) (by omega) (by omega) rfl rfl rfl rfl rfl hnn hdm hA)) (fun a M' _ h => pass_step (by omega) (by omega) h)) (fun a24 M24 r24 h24 => ?_)
          have hob : bOc M c n w = 0 ∨ bOc M c n w = 1 := by unfold bOc burnO; split <;> omega
          obtain ⟨rfl, h24⟩ := h24
          refine f_eq (tgt := 33) hZ dX0_pass_27 rfl (by omega) (fun h27 => ?_) (fun h27 => ?_)
          · refine f_iinc (L' := [_, _, _, _]) hZ dX0_pass_33 rfl rfl ?_
            refine f_goto (tgt := 4) hZ dX0_pass_36 rfl ?_
            have hh := ih (w + 1) (by omega) (by omega)
            rw [sumZ_succ _ (by omega)] at hh
            first
              | (rw [show bOc M c n w = 0 from if_neg (by omega), Int.add_zero] at hh; exact f_eqM (burnG_a (by omega) (by omega) (by omega) (by omega) rfl rfl rfl (by omega)) hh)
              | (rw [show bOc M c n w = 0 by omega, Int.add_zero] at hh; exact hh)
              | (rw [show bOc M c n w = 1 by omega] at hh; exact hh)
          · refine f_iinc (L' := [_, _, _, _]) hZ dX0_pass_30 rfl rfl ?_
            refine f_iinc (L' := [_, _, _, _]) hZ dX0_pass_33 rfl rfl ?_
            refine f_goto (tgt := 4) hZ dX0_pass_36 rfl ?_
            have hh := ih (w + 1) (by omega) (by omega)
            rw [sumZ_succ _ (by omega)] at hh
            first
              | (rw [show bOc M c n w = 0 from if_neg (by omega), Int.add_zero] at hh; exact f_eqM (burnG_a (by omega) (by omega) (by omega) (by omega) rfl rfl rfl (by omega)) hh)
              | (rw [show bOc M c n w = 0 by omega, Int.add_zero] at hh; exact hh)
              | (rw [show bOc M c n w = 1 by omega] at hh; exact hh)
  refine f_iconst hZ dX0_pass_0 ?_
  refine f_istore_n (L' := [_, _, _, _]) hZ dX0_pass_1 rfl rfl ?_
  refine f_iconst hZ dX0_pass_2 ?_
  refine f_istore_n (L' := [_, _, _, _]) hZ dX0_pass_3 rfl rfl ?_
  have hh := loop (M c 5).toNat 0 (by omega) (by omega)
  rw [sumZ_0, show bMc M c n 0 = M from burnG_0] at hh
  exact hh

/-- which wicks are told by bits -/
def bitZ (s w : Int) : Int := andI (shrI s w) 1
def someP (n : Int) (P L : Int → Int) (s : Int) : Prop := (0 ≤ s ∧ s < shlI 1 n) ∧ ∀ w, 0 ≤ w → w < n → bitZ s w = 1 → P w ≠ 0 ∧ L w = 0
theorem shl_rg (n : Int) : rg (shlI 1 n) := rg_of _
theorem bit_rg (s w : Int) : rg (bitZ s w) := rg_of _
theorem f_rgA (a b : Int) : rg (andI a b) := rg_of _
set_option maxRecDepth 20000 in
set_option maxHeartbeats 4000000 in
theorem t_X0_unlit {X : fX} {M : fM} {d c : Nat} (hC : isC c) {s : Int} (hs : rg s) (hn : 0 ≤ M c 5 ∧ M c 5 ≤ 4) (hA : WfA (M c 5) (M (c + 1)) (M (c + 2)) (M (c + 3)) (M (c + 4)) (M (c + 5))) : fC X d mX0_unlit [.ref (xa X c), .int (iv s)] M (QI fun r M' => M' = M ∧ bz r (someP (M c 5) (M (c + 3)) (M (c + 4)) s)) := by
  refine fC.of (L := [_, _, _]) (by decide +kernel) rfl (Nat.le_of_ble_eq_true rfl) (fun Z hZ hR => ?_)
  have loop : ∀ (m : Nat) (w : Int) , 0 ≤ w → w + m = M c 5 → (0 ≤ s ∧ s < shlI 1 (M c 5)) → (∀ i, 0 ≤ i → i < w → bitZ s i = 1 → M (c + 3) i ≠ 0 ∧ M (c + 4) i = 0) → fG X mX0_unlit Z 18 [.ref (xa X c), .int (iv s), .int (iv w)] [] (M) := by
    intro m
    induction m with
    | zero =>
      intro w  h0 hw hs0 hinv
      refine f_iload_n hZ dX0_unlit_18 rfl ?_
      refine f_aload_n hZ dX0_unlit_19 rfl ?_
      refine gX0_27 hZ dX0_unlit_20 (by first | exact hC | exact isC1 | exact isC7 | exact isC13) (fun r20 => ?_)
      refine f_ige (tgt := 61) hZ dX0_unlit_23 rfl (by first | omega | exact shl_rg _ | exact f_rgA _ _) (by first | omega | exact shl_rg _ | exact f_rgA _ _) (fun h23 => ?_) (fun h23 => ?_)
      · refine f_iconst hZ dX0_unlit_61 ?_
        exact f_retZ hZ hR dX0_unlit_62 rfl (by first | omega | exact shl_rg _ | exact f_rgA _ _) (by refine ⟨rfl, ?_⟩; first | exact Or.inl ⟨rfl, ⟨by omega, by omega⟩, fun i h1 h2 hb => hinv i h1 (by omega) hb⟩ | exact Or.inr ⟨rfl, fun hs => by have := hs.1; omega⟩ | exact Or.inr ⟨rfl, fun hs => by have h9 := hs.2 w (by omega) (by omega) (by assumption); omega⟩)
      · exfalso; omega
    | succ m ih =>
      intro w  h0 hw hs0 hinv
      refine f_iload_n hZ dX0_unlit_18 rfl ?_
      refine f_aload_n hZ dX0_unlit_19 rfl ?_
      refine gX0_27 hZ dX0_unlit_20 (by first | exact hC | exact isC1 | exact isC7 | exact isC13) (fun r20 => ?_)
      refine f_ige (tgt := 61) hZ dX0_unlit_23 rfl (by first | omega | exact shl_rg _ | exact f_rgA _ _) (by first | omega | exact shl_rg _ | exact f_rgA _ _) (fun h23 => ?_) (fun h23 => ?_)
      · exfalso; omega
      · have hq := hA w (by omega) (by omega)
        refine f_iload_n hZ dX0_unlit_26 rfl ?_
        refine f_iload_n hZ dX0_unlit_27 rfl ?_
        refine f_ishr hZ dX0_unlit_28 ?_
        refine f_iconst hZ dX0_unlit_29 ?_
        refine f_iand hZ dX0_unlit_30 ?_
        refine f_iconst hZ dX0_unlit_31 ?_
        refine f_ine (tgt := 55) hZ dX0_unlit_32 rfl (by first | omega | exact shl_rg _ | exact f_rgA _ _) (by first | omega | exact shl_rg _ | exact f_rgA _ _) (fun h32 => ?_) (fun h32 => ?_)
        · refine f_iinc (L' := [_, _, _]) hZ dX0_unlit_55 rfl rfl ?_
          refine f_goto (tgt := 18) hZ dX0_unlit_58 rfl ?_
          exact ih (w + 1) (by omega) (by omega) hs0 (fun i h1 h2 hb => by
            by_cases hi : i = w
            · subst hi
              first | exact ⟨by omega, by omega⟩ | exact absurd hb (by assumption)
            · exact hinv i h1 (by omega) hb)
        · refine f_aload_n hZ dX0_unlit_35 rfl ?_
          refine gX0_18 hZ dX0_unlit_36 (by first | exact hC | exact isC1 | exact isC7 | exact isC13) ?_
          refine f_iload_n hZ dX0_unlit_39 rfl ?_
          refine f_iaload hZ dX0_unlit_40 (by first | rfl | exact hC.t1 | exact hC.t2 | exact hC.t3 | exact hC.t4 | exact hC.t5) (by first | rfl | exact hC.l1 | exact hC.l2 | exact hC.l3 | exact hC.l4 | exact hC.l5) (by first | omega | exact shl_rg _ | exact f_rgA _ _) (by first | omega | exact shl_rg _ | exact f_rgA _ _) (fun r40 => ?_)
          refine f_eq (tgt := 53) hZ dX0_unlit_41 rfl (by first | omega | exact shl_rg _ | exact f_rgA _ _) (fun h41 => ?_) (fun h41 => ?_)
          · refine f_iconst hZ dX0_unlit_53 ?_
            exact f_retZ hZ hR dX0_unlit_54 rfl (by first | omega | exact shl_rg _ | exact f_rgA _ _) (by refine ⟨rfl, ?_⟩; first | exact Or.inl ⟨rfl, ⟨by omega, by omega⟩, fun i h1 h2 hb => hinv i h1 (by omega) hb⟩ | exact Or.inr ⟨rfl, fun hs => by have := hs.1; omega⟩ | exact Or.inr ⟨rfl, fun hs => by have h9 := hs.2 w (by omega) (by omega) (by assumption); omega⟩)
          · refine f_aload_n hZ dX0_unlit_44 rfl ?_
            refine gX0_21 hZ dX0_unlit_45 (by first | exact hC | exact isC1 | exact isC7 | exact isC13) ?_
            refine f_iload_n hZ dX0_unlit_48 rfl ?_
            refine f_iaload hZ dX0_unlit_49 (by first | rfl | exact hC.t1 | exact hC.t2 | exact hC.t3 | exact hC.t4 | exact hC.t5) (by first | rfl | exact hC.l1 | exact hC.l2 | exact hC.l3 | exact hC.l4 | exact hC.l5) (by first | omega | exact shl_rg _ | exact f_rgA _ _) (by first | omega | exact shl_rg _ | exact f_rgA _ _) (fun r49 => ?_)
            refine f_le (tgt := 55) hZ dX0_unlit_50 rfl (by first | omega | exact shl_rg _ | exact f_rgA _ _) (fun h50 => ?_) (fun h50 => ?_)
            · refine f_iinc (L' := [_, _, _]) hZ dX0_unlit_55 rfl rfl ?_
              refine f_goto (tgt := 18) hZ dX0_unlit_58 rfl ?_
              exact ih (w + 1) (by omega) (by omega) hs0 (fun i h1 h2 hb => by
                by_cases hi : i = w
                · subst hi
                  first | exact ⟨by omega, by omega⟩ | exact absurd hb (by assumption)
                · exact hinv i h1 (by omega) hb)
            · refine f_iconst hZ dX0_unlit_53 ?_
              exact f_retZ hZ hR dX0_unlit_54 rfl (by first | omega | exact shl_rg _ | exact f_rgA _ _) (by refine ⟨rfl, ?_⟩; first | exact Or.inl ⟨rfl, ⟨by omega, by omega⟩, fun i h1 h2 hb => hinv i h1 (by omega) hb⟩ | exact Or.inr ⟨rfl, fun hs => by have := hs.1; omega⟩ | exact Or.inr ⟨rfl, fun hs => by have h9 := hs.2 w (by omega) (by omega) (by assumption); omega⟩)
  refine f_iload_n hZ dX0_unlit_0 rfl ?_
  refine f_lt (tgt := 14) hZ dX0_unlit_1 rfl (by first | omega | exact shl_rg _ | exact f_rgA _ _) (fun h1 => ?_) (fun h1 => ?_)
  · refine f_iconst hZ dX0_unlit_14 ?_
    exact f_retZ hZ hR dX0_unlit_15 rfl (by first | omega | exact shl_rg _ | exact f_rgA _ _) (by refine ⟨rfl, ?_⟩; first | exact Or.inl ⟨rfl, ⟨by omega, by omega⟩, fun i h1 h2 hb => hinv i h1 (by omega) hb⟩ | exact Or.inr ⟨rfl, fun hs => by have := hs.1; omega⟩ | exact Or.inr ⟨rfl, fun hs => by have h9 := hs.2 w (by omega) (by omega) (by assumption); omega⟩)
  · refine f_iload_n hZ dX0_unlit_4 rfl ?_
    refine f_iconst hZ dX0_unlit_5 ?_
    refine f_aload_n hZ dX0_unlit_6 rfl ?_
    refine gX0_27 hZ dX0_unlit_7 (by first | exact hC | exact isC1 | exact isC7 | exact isC13) (fun r7 => ?_)
    refine f_ishl hZ dX0_unlit_10 ?_
    refine f_ilt (tgt := 16) hZ dX0_unlit_11 rfl (by first | omega | exact shl_rg _ | exact f_rgA _ _) (by first | omega | exact shl_rg _ | exact f_rgA _ _) (fun h11 => ?_) (fun h11 => ?_)
    · refine f_iconst hZ dX0_unlit_16 ?_
      refine f_istore_n (L' := [_, _, _]) hZ dX0_unlit_17 rfl rfl ?_
      exact loop (M c 5).toNat 0 (by omega) (by omega) ⟨by omega, by omega⟩ (fun i h1 h2 => by omega)
    · refine f_iconst hZ dX0_unlit_14 ?_
      exact f_retZ hZ hR dX0_unlit_15 rfl (by first | omega | exact shl_rg _ | exact f_rgA _ _) (by refine ⟨rfl, ?_⟩; first | exact Or.inl ⟨rfl, ⟨by omega, by omega⟩, fun i h1 h2 hb => hinv i h1 (by omega) hb⟩ | exact Or.inr ⟨rfl, fun hs => by have := hs.1; omega⟩ | exact Or.inr ⟨rfl, fun hs => by have h9 := hs.2 w (by omega) (by omega) (by assumption); omega⟩)

def litO (L : Int → Int) (i : Int) : Int := if 0 < L i then 1 else 0
set_option maxRecDepth 20000 in
set_option maxHeartbeats 4000000 in
theorem t_X0_burning {X : fX} {M : fM} {d c : Nat} (hC : isC c) (hn : 0 ≤ M c 5 ∧ M c 5 ≤ 4) : fC X d mX0_burning [.ref (xa X c)] M (QI fun r M' => M' = M ∧ r = sumZ (litO (M (c + 4))) (M c 5)) := by
  refine fC.of (L := [_, _, _]) (by decide +kernel) rfl (Nat.le_of_ble_eq_true rfl) (fun Z hZ hR => ?_)
  have hO : ∀ w, 0 ≤ w → w ≤ M c 5 → 0 ≤ sumZ (litO (M (c + 4))) w ∧ sumZ (litO (M (c + 4))) w ≤ 4 := fun w h0 h1 => by
    have := sumZ_bd (f := litO (M (c + 4))) (a := 0) (b := 1) (by omega) (by omega) h0 (fun i _ _ => by unfold litO; split <;> omega)
    omega
  have loop : ∀ (m : Nat) (w : Int) , 0 ≤ w → w + m = M c 5 →  fG X mX0_burning Z 4 [.ref (xa X c), .int (iv (sumZ (litO (M (c + 4))) w)), .int (iv w)] [] (M) := by
    intro m
    induction m with
    | zero =>
      intro w  h0 hw 
      have hOw := hO w h0 (by omega)
      refine f_iload_n hZ dX0_burning_4 rfl ?_
      refine f_aload_n hZ dX0_burning_5 rfl ?_
      refine gX0_27 hZ dX0_burning_6 (by first | exact hC | exact isC1 | exact isC7 | exact isC13) (fun r6 => ?_)
      refine f_ige (tgt := 35) hZ dX0_burning_9 rfl (by omega) (by omega) (fun h9 => ?_) (fun h9 => ?_)
      · refine f_iload_n hZ dX0_burning_35 rfl ?_
        exact f_retI hZ hR dX0_burning_36 rfl (by omega) (by have hwe : w = M c 5 := (by omega); subst hwe; exact ⟨rfl, rfl⟩)
      · exfalso; omega
    | succ m ih =>
      intro w  h0 hw 
      have hOw := hO w h0 (by omega)
      refine f_iload_n hZ dX0_burning_4 rfl ?_
      refine f_aload_n hZ dX0_burning_5 rfl ?_
      refine gX0_27 hZ dX0_burning_6 (by first | exact hC | exact isC1 | exact isC7 | exact isC13) (fun r6 => ?_)
      refine f_ige (tgt := 35) hZ dX0_burning_9 rfl (by omega) (by omega) (fun h9 => ?_) (fun h9 => ?_)
      · exfalso; omega
      · refine f_iload_n hZ dX0_burning_12 rfl ?_
        refine f_aload_n hZ dX0_burning_13 rfl ?_
        refine gX0_21 hZ dX0_burning_14 (by first | exact hC | exact isC1 | exact isC7 | exact isC13) ?_
        refine f_iload_n hZ dX0_burning_17 rfl ?_
        refine f_iaload hZ dX0_burning_18 (by first | rfl | exact hC.t1 | exact hC.t2 | exact hC.t3 | exact hC.t4 | exact hC.t5) (by first | rfl | exact hC.l1 | exact hC.l2 | exact hC.l3 | exact hC.l4 | exact hC.l5) (by omega) (by omega) (fun r18 => ?_)
        refine f_le (tgt := 26) hZ dX0_burning_19 rfl (by omega) (fun h19 => ?_) (fun h19 => ?_)
        · refine f_iconst hZ dX0_burning_26 ?_
          refine f_iadd hZ dX0_burning_27 ?_
          refine f_istore_n (L' := [_, _, _]) hZ dX0_burning_28 rfl rfl ?_
          refine f_iinc (L' := [_, _, _]) hZ dX0_burning_29 rfl rfl ?_
          refine f_goto (tgt := 4) hZ dX0_burning_32 rfl ?_
          have hh := ih (w + 1) (by omega) (by omega)
          rw [sumZ_succ _ (by omega)] at hh
          first | (rw [show litO (M (c + 4)) w = 1 from if_pos (by omega)] at hh; exact hh) | (rw [show litO (M (c + 4)) w = 0 from if_neg (by omega)] at hh; exact hh)
        · refine f_iconst hZ dX0_burning_22 ?_
          refine f_goto (tgt := 27) hZ dX0_burning_23 rfl ?_
          refine f_iadd hZ dX0_burning_27 ?_
          refine f_istore_n (L' := [_, _, _]) hZ dX0_burning_28 rfl rfl ?_
          refine f_iinc (L' := [_, _, _]) hZ dX0_burning_29 rfl rfl ?_
          refine f_goto (tgt := 4) hZ dX0_burning_32 rfl ?_
          have hh := ih (w + 1) (by omega) (by omega)
          rw [sumZ_succ _ (by omega)] at hh
          first | (rw [show litO (M (c + 4)) w = 1 from if_pos (by omega)] at hh; exact hh) | (rw [show litO (M (c + 4)) w = 0 from if_neg (by omega)] at hh; exact hh)
  refine f_iconst hZ dX0_burning_0 ?_
  refine f_istore_n (L' := [_, _, _]) hZ dX0_burning_1 rfl rfl ?_
  refine f_iconst hZ dX0_burning_2 ?_
  refine f_istore_n (L' := [_, _, _]) hZ dX0_burning_3 rfl rfl ?_
  exact loop (M c 5).toNat 0 (by omega) (by omega)

set_option maxRecDepth 20000 in
set_option maxHeartbeats 4000000 in
theorem t_X0_partsInAll {X : fX} {M : fM} {d c : Nat} (hC : isC c) (hn : 0 ≤ M c 5 ∧ M c 5 ≤ 4) (hA : WfA (M c 5) (M (c + 1)) (M (c + 2)) (M (c + 3)) (M (c + 4)) (M (c + 5))) : fC X d mX0_partsInAll [.ref (xa X c)] M (QI fun r M' => M' = M ∧ r = sumZ (M (c + 3)) (M c 5)) := by
  refine fC.of (L := [_, _, _]) (by decide +kernel) rfl (Nat.le_of_ble_eq_true rfl) (fun Z hZ hR => ?_)
  have hO : ∀ w, 0 ≤ w → w ≤ M c 5 → 0 ≤ sumZ (M (c + 3)) w ∧ sumZ (M (c + 3)) w ≤ 400 := fun w h0 h1 => by
    have := sumZ_bd (f := M (c + 3)) (a := 0) (b := 99) (by omega) (by omega) h0 (fun i h2 h3 => (hA i h2 (by omega)).2.2.1)
    omega
  have loop : ∀ (m : Nat) (w : Int) , 0 ≤ w → w + m = M c 5 →  fG X mX0_partsInAll Z 4 [.ref (xa X c), .int (iv (sumZ (M (c + 3)) w)), .int (iv w)] [] (M) := by
    intro m
    induction m with
    | zero =>
      intro w  h0 hw 
      have hOw := hO w h0 (by omega)
      refine f_iload_n hZ dX0_partsInAll_4 rfl ?_
      refine f_aload_n hZ dX0_partsInAll_5 rfl ?_
      refine gX0_27 hZ dX0_partsInAll_6 (by first | exact hC | exact isC1 | exact isC7 | exact isC13) (fun r6 => ?_)
      refine f_ige (tgt := 27) hZ dX0_partsInAll_9 rfl (by omega) (by omega) (fun h9 => ?_) (fun h9 => ?_)
      · refine f_iload_n hZ dX0_partsInAll_27 rfl ?_
        exact f_retI hZ hR dX0_partsInAll_28 rfl (by omega) (by have hwe : w = M c 5 := (by omega); subst hwe; exact ⟨rfl, rfl⟩)
      · exfalso; omega
    | succ m ih =>
      intro w  h0 hw 
      have hOw := hO w h0 (by omega)
      refine f_iload_n hZ dX0_partsInAll_4 rfl ?_
      refine f_aload_n hZ dX0_partsInAll_5 rfl ?_
      refine gX0_27 hZ dX0_partsInAll_6 (by first | exact hC | exact isC1 | exact isC7 | exact isC13) (fun r6 => ?_)
      refine f_ige (tgt := 27) hZ dX0_partsInAll_9 rfl (by omega) (by omega) (fun h9 => ?_) (fun h9 => ?_)
      · exfalso; omega
      · refine f_iload_n hZ dX0_partsInAll_12 rfl ?_
        refine f_aload_n hZ dX0_partsInAll_13 rfl ?_
        refine gX0_18 hZ dX0_partsInAll_14 (by first | exact hC | exact isC1 | exact isC7 | exact isC13) ?_
        refine f_iload_n hZ dX0_partsInAll_17 rfl ?_
        refine f_iaload hZ dX0_partsInAll_18 (by first | rfl | exact hC.t1 | exact hC.t2 | exact hC.t3 | exact hC.t4 | exact hC.t5) (by first | rfl | exact hC.l1 | exact hC.l2 | exact hC.l3 | exact hC.l4 | exact hC.l5) (by omega) (by omega) (fun r18 => ?_)
        refine f_iadd hZ dX0_partsInAll_19 ?_
        refine f_istore_n (L' := [_, _, _]) hZ dX0_partsInAll_20 rfl rfl ?_
        refine f_iinc (L' := [_, _, _]) hZ dX0_partsInAll_21 rfl rfl ?_
        refine f_goto (tgt := 4) hZ dX0_partsInAll_24 rfl ?_
        have hh := ih (w + 1) (by omega) (by omega)
        rw [sumZ_succ _ (by omega)] at hh
        exact hh
  refine f_iconst hZ dX0_partsInAll_0 ?_
  refine f_istore_n (L' := [_, _, _]) hZ dX0_partsInAll_1 rfl rfl ?_
  refine f_iconst hZ dX0_partsInAll_2 ?_
  refine f_istore_n (L' := [_, _, _]) hZ dX0_partsInAll_3 rfl rfl ?_
  exact loop (M c 5).toNat 0 (by omega) (by omega)

def cpA (M : fM) (c b : Nat) : fM := cpM (cpM (cpM (cpM (cpM M (b + 1) (c + 1) 0 0 4) (b + 2) (c + 2) 0 0 4) (b + 3) (c + 3) 0 0 4) (b + 4) (c + 4) 0 0 4) (b + 5) (c + 5) 0 0 4
def takeC (M : fM) (c b : Nat) : fM := up (up (up (up (cpA M c b) c 5 (M b 5)) c 6 (M b 6)) c 7 (M b 7)) c 8 (M b 8)
set_option maxRecDepth 20000 in
set_option maxHeartbeats 4000000 in
theorem t_X0_take_13_1 {X : fX} {M : fM} {d : Nat} : fC X (d + 1) mX0_takeOver [.ref (xa X 13), .ref (xa X 1)] M (QV fun M' => M' = takeC M 13 1) := by
  refine fC.of (L := [_, _]) (by decide +kernel) rfl (Nat.le_of_ble_eq_true rfl) (fun Z hZ hR => ?_)
  refine f_aload_n hZ dX0_takeOver_0 rfl ?_
  refine gX0_9 hZ dX0_takeOver_1 (by first | exact isC1 | exact isC7 | exact isC13) ?_
  refine f_iconst hZ dX0_takeOver_4 ?_
  refine f_aload_n hZ dX0_takeOver_5 rfl ?_
  refine gX0_9 hZ dX0_takeOver_6 (by first | exact isC1 | exact isC7 | exact isC13) ?_
  refine f_iconst hZ dX0_takeOver_9 ?_
  refine f_iconst hZ dX0_takeOver_10 ?_
  refine f_copy hZ dX0_takeOver_11 wk_X0_44 rfl rfl rfl rfl (by omega) (by omega) (by omega) (by omega) (by omega) (Nat.le_of_ble_eq_true rfl) ?_
  refine f_aload_n hZ dX0_takeOver_14 rfl ?_
  refine gX0_15 hZ dX0_takeOver_15 (by first | exact isC1 | exact isC7 | exact isC13) ?_
  refine f_iconst hZ dX0_takeOver_18 ?_
  refine f_aload_n hZ dX0_takeOver_19 rfl ?_
  refine gX0_15 hZ dX0_takeOver_20 (by first | exact isC1 | exact isC7 | exact isC13) ?_
  refine f_iconst hZ dX0_takeOver_23 ?_
  refine f_iconst hZ dX0_takeOver_24 ?_
  refine f_copy hZ dX0_takeOver_25 wk_X0_44 rfl rfl rfl rfl (by omega) (by omega) (by omega) (by omega) (by omega) (Nat.le_of_ble_eq_true rfl) ?_
  refine f_aload_n hZ dX0_takeOver_28 rfl ?_
  refine gX0_18 hZ dX0_takeOver_29 (by first | exact isC1 | exact isC7 | exact isC13) ?_
  refine f_iconst hZ dX0_takeOver_32 ?_
  refine f_aload_n hZ dX0_takeOver_33 rfl ?_
  refine gX0_18 hZ dX0_takeOver_34 (by first | exact isC1 | exact isC7 | exact isC13) ?_
  refine f_iconst hZ dX0_takeOver_37 ?_
  refine f_iconst hZ dX0_takeOver_38 ?_
  refine f_copy hZ dX0_takeOver_39 wk_X0_44 rfl rfl rfl rfl (by omega) (by omega) (by omega) (by omega) (by omega) (Nat.le_of_ble_eq_true rfl) ?_
  refine f_aload_n hZ dX0_takeOver_42 rfl ?_
  refine gX0_21 hZ dX0_takeOver_43 (by first | exact isC1 | exact isC7 | exact isC13) ?_
  refine f_iconst hZ dX0_takeOver_46 ?_
  refine f_aload_n hZ dX0_takeOver_47 rfl ?_
  refine gX0_21 hZ dX0_takeOver_48 (by first | exact isC1 | exact isC7 | exact isC13) ?_
  refine f_iconst hZ dX0_takeOver_51 ?_
  refine f_iconst hZ dX0_takeOver_52 ?_
  refine f_copy hZ dX0_takeOver_53 wk_X0_44 rfl rfl rfl rfl (by omega) (by omega) (by omega) (by omega) (by omega) (Nat.le_of_ble_eq_true rfl) ?_
  refine f_aload_n hZ dX0_takeOver_56 rfl ?_
  refine gX0_24 hZ dX0_takeOver_57 (by first | exact isC1 | exact isC7 | exact isC13) ?_
  refine f_iconst hZ dX0_takeOver_60 ?_
  refine f_aload_n hZ dX0_takeOver_61 rfl ?_
  refine gX0_24 hZ dX0_takeOver_62 (by first | exact isC1 | exact isC7 | exact isC13) ?_
  refine f_iconst hZ dX0_takeOver_65 ?_
  refine f_iconst hZ dX0_takeOver_66 ?_
  refine f_copy hZ dX0_takeOver_67 wk_X0_44 rfl rfl rfl rfl (by omega) (by omega) (by omega) (by omega) (by omega) (Nat.le_of_ble_eq_true rfl) ?_
  refine f_aload_n hZ dX0_takeOver_70 rfl ?_
  refine f_aload_n hZ dX0_takeOver_71 rfl ?_
  refine gX0_27 hZ dX0_takeOver_72 (by first | exact isC1 | exact isC7 | exact isC13) (fun r72 => ?_)
  try simp only [cpM, up_app, Nat.add_left_cancel_iff, Nat.left_eq_add, Nat.add_eq_left, Nat.reduceEqDiff, Int.reduceEq, and_true, true_and, and_self, and_false, false_and, if_true, if_false, reduceIte] at r72 ⊢
  refine pX0_27 hZ dX0_takeOver_75 (by first | exact isC1 | exact isC7 | exact isC13) (by omega) ?_
  refine f_aload_n hZ dX0_takeOver_78 rfl ?_
  refine f_aload_n hZ dX0_takeOver_79 rfl ?_
  refine gX0_31 hZ dX0_takeOver_80 (by first | exact isC1 | exact isC7 | exact isC13) (fun r80 => ?_)
  try simp only [cpM, up_app, Nat.add_left_cancel_iff, Nat.left_eq_add, Nat.add_eq_left, Nat.reduceEqDiff, Int.reduceEq, and_true, true_and, and_self, and_false, false_and, if_true, if_false, reduceIte] at r80 ⊢
  refine pX0_31 hZ dX0_takeOver_83 (by first | exact isC1 | exact isC7 | exact isC13) (by omega) ?_
  refine f_aload_n hZ dX0_takeOver_86 rfl ?_
  refine f_aload_n hZ dX0_takeOver_87 rfl ?_
  refine gX0_34 hZ dX0_takeOver_88 (by first | exact isC1 | exact isC7 | exact isC13) (fun r88 => ?_)
  try simp only [cpM, up_app, Nat.add_left_cancel_iff, Nat.left_eq_add, Nat.add_eq_left, Nat.reduceEqDiff, Int.reduceEq, and_true, true_and, and_self, and_false, false_and, if_true, if_false, reduceIte] at r88 ⊢
  refine pX0_34 hZ dX0_takeOver_91 (by first | exact isC1 | exact isC7 | exact isC13) (by omega) ?_
  refine f_aload_n hZ dX0_takeOver_94 rfl ?_
  refine f_aload_n hZ dX0_takeOver_95 rfl ?_
  refine gX0_37 hZ dX0_takeOver_96 (by first | exact isC1 | exact isC7 | exact isC13) (fun r96 => ?_)
  try simp only [cpM, up_app, Nat.add_left_cancel_iff, Nat.left_eq_add, Nat.add_eq_left, Nat.reduceEqDiff, Int.reduceEq, and_true, true_and, and_self, and_false, false_and, if_true, if_false, reduceIte] at r96 ⊢
  refine pX0_37 hZ dX0_takeOver_99 (by first | exact isC1 | exact isC7 | exact isC13) (by omega) ?_
  exact f_retV hZ hR dX0_takeOver_102 rfl (by rfl)

set_option maxRecDepth 20000 in
set_option maxHeartbeats 4000000 in
theorem t_X0_take_7_1 {X : fX} {M : fM} {d : Nat} : fC X (d + 1) mX0_takeOver [.ref (xa X 7), .ref (xa X 1)] M (QV fun M' => M' = takeC M 7 1) := by
  refine fC.of (L := [_, _]) (by decide +kernel) rfl (Nat.le_of_ble_eq_true rfl) (fun Z hZ hR => ?_)
  refine f_aload_n hZ dX0_takeOver_0 rfl ?_
  refine gX0_9 hZ dX0_takeOver_1 (by first | exact isC1 | exact isC7 | exact isC13) ?_
  refine f_iconst hZ dX0_takeOver_4 ?_
  refine f_aload_n hZ dX0_takeOver_5 rfl ?_
  refine gX0_9 hZ dX0_takeOver_6 (by first | exact isC1 | exact isC7 | exact isC13) ?_
  refine f_iconst hZ dX0_takeOver_9 ?_
  refine f_iconst hZ dX0_takeOver_10 ?_
  refine f_copy hZ dX0_takeOver_11 wk_X0_44 rfl rfl rfl rfl (by omega) (by omega) (by omega) (by omega) (by omega) (Nat.le_of_ble_eq_true rfl) ?_
  refine f_aload_n hZ dX0_takeOver_14 rfl ?_
  refine gX0_15 hZ dX0_takeOver_15 (by first | exact isC1 | exact isC7 | exact isC13) ?_
  refine f_iconst hZ dX0_takeOver_18 ?_
  refine f_aload_n hZ dX0_takeOver_19 rfl ?_
  refine gX0_15 hZ dX0_takeOver_20 (by first | exact isC1 | exact isC7 | exact isC13) ?_
  refine f_iconst hZ dX0_takeOver_23 ?_
  refine f_iconst hZ dX0_takeOver_24 ?_
  refine f_copy hZ dX0_takeOver_25 wk_X0_44 rfl rfl rfl rfl (by omega) (by omega) (by omega) (by omega) (by omega) (Nat.le_of_ble_eq_true rfl) ?_
  refine f_aload_n hZ dX0_takeOver_28 rfl ?_
  refine gX0_18 hZ dX0_takeOver_29 (by first | exact isC1 | exact isC7 | exact isC13) ?_
  refine f_iconst hZ dX0_takeOver_32 ?_
  refine f_aload_n hZ dX0_takeOver_33 rfl ?_
  refine gX0_18 hZ dX0_takeOver_34 (by first | exact isC1 | exact isC7 | exact isC13) ?_
  refine f_iconst hZ dX0_takeOver_37 ?_
  refine f_iconst hZ dX0_takeOver_38 ?_
  refine f_copy hZ dX0_takeOver_39 wk_X0_44 rfl rfl rfl rfl (by omega) (by omega) (by omega) (by omega) (by omega) (Nat.le_of_ble_eq_true rfl) ?_
  refine f_aload_n hZ dX0_takeOver_42 rfl ?_
  refine gX0_21 hZ dX0_takeOver_43 (by first | exact isC1 | exact isC7 | exact isC13) ?_
  refine f_iconst hZ dX0_takeOver_46 ?_
  refine f_aload_n hZ dX0_takeOver_47 rfl ?_
  refine gX0_21 hZ dX0_takeOver_48 (by first | exact isC1 | exact isC7 | exact isC13) ?_
  refine f_iconst hZ dX0_takeOver_51 ?_
  refine f_iconst hZ dX0_takeOver_52 ?_
  refine f_copy hZ dX0_takeOver_53 wk_X0_44 rfl rfl rfl rfl (by omega) (by omega) (by omega) (by omega) (by omega) (Nat.le_of_ble_eq_true rfl) ?_
  refine f_aload_n hZ dX0_takeOver_56 rfl ?_
  refine gX0_24 hZ dX0_takeOver_57 (by first | exact isC1 | exact isC7 | exact isC13) ?_
  refine f_iconst hZ dX0_takeOver_60 ?_
  refine f_aload_n hZ dX0_takeOver_61 rfl ?_
  refine gX0_24 hZ dX0_takeOver_62 (by first | exact isC1 | exact isC7 | exact isC13) ?_
  refine f_iconst hZ dX0_takeOver_65 ?_
  refine f_iconst hZ dX0_takeOver_66 ?_
  refine f_copy hZ dX0_takeOver_67 wk_X0_44 rfl rfl rfl rfl (by omega) (by omega) (by omega) (by omega) (by omega) (Nat.le_of_ble_eq_true rfl) ?_
  refine f_aload_n hZ dX0_takeOver_70 rfl ?_
  refine f_aload_n hZ dX0_takeOver_71 rfl ?_
  refine gX0_27 hZ dX0_takeOver_72 (by first | exact isC1 | exact isC7 | exact isC13) (fun r72 => ?_)
  try simp only [cpM, up_app, Nat.add_left_cancel_iff, Nat.left_eq_add, Nat.add_eq_left, Nat.reduceEqDiff, Int.reduceEq, and_true, true_and, and_self, and_false, false_and, if_true, if_false, reduceIte] at r72 ⊢
  refine pX0_27 hZ dX0_takeOver_75 (by first | exact isC1 | exact isC7 | exact isC13) (by omega) ?_
  refine f_aload_n hZ dX0_takeOver_78 rfl ?_
  refine f_aload_n hZ dX0_takeOver_79 rfl ?_
  refine gX0_31 hZ dX0_takeOver_80 (by first | exact isC1 | exact isC7 | exact isC13) (fun r80 => ?_)
  try simp only [cpM, up_app, Nat.add_left_cancel_iff, Nat.left_eq_add, Nat.add_eq_left, Nat.reduceEqDiff, Int.reduceEq, and_true, true_and, and_self, and_false, false_and, if_true, if_false, reduceIte] at r80 ⊢
  refine pX0_31 hZ dX0_takeOver_83 (by first | exact isC1 | exact isC7 | exact isC13) (by omega) ?_
  refine f_aload_n hZ dX0_takeOver_86 rfl ?_
  refine f_aload_n hZ dX0_takeOver_87 rfl ?_
  refine gX0_34 hZ dX0_takeOver_88 (by first | exact isC1 | exact isC7 | exact isC13) (fun r88 => ?_)
  try simp only [cpM, up_app, Nat.add_left_cancel_iff, Nat.left_eq_add, Nat.add_eq_left, Nat.reduceEqDiff, Int.reduceEq, and_true, true_and, and_self, and_false, false_and, if_true, if_false, reduceIte] at r88 ⊢
  refine pX0_34 hZ dX0_takeOver_91 (by first | exact isC1 | exact isC7 | exact isC13) (by omega) ?_
  refine f_aload_n hZ dX0_takeOver_94 rfl ?_
  refine f_aload_n hZ dX0_takeOver_95 rfl ?_
  refine gX0_37 hZ dX0_takeOver_96 (by first | exact isC1 | exact isC7 | exact isC13) (fun r96 => ?_)
  try simp only [cpM, up_app, Nat.add_left_cancel_iff, Nat.left_eq_add, Nat.add_eq_left, Nat.reduceEqDiff, Int.reduceEq, and_true, true_and, and_self, and_false, false_and, if_true, if_false, reduceIte] at r96 ⊢
  refine pX0_37 hZ dX0_takeOver_99 (by first | exact isC1 | exact isC7 | exact isC13) (by omega) ?_
  exact f_retV hZ hR dX0_takeOver_102 rfl (by rfl)

set_option maxRecDepth 20000 in
set_option maxHeartbeats 4000000 in
theorem t_X0_take_1_7 {X : fX} {M : fM} {d : Nat} : fC X (d + 1) mX0_takeOver [.ref (xa X 1), .ref (xa X 7)] M (QV fun M' => M' = takeC M 1 7) := by
  refine fC.of (L := [_, _]) (by decide +kernel) rfl (Nat.le_of_ble_eq_true rfl) (fun Z hZ hR => ?_)
  refine f_aload_n hZ dX0_takeOver_0 rfl ?_
  refine gX0_9 hZ dX0_takeOver_1 (by first | exact isC1 | exact isC7 | exact isC13) ?_
  refine f_iconst hZ dX0_takeOver_4 ?_
  refine f_aload_n hZ dX0_takeOver_5 rfl ?_
  refine gX0_9 hZ dX0_takeOver_6 (by first | exact isC1 | exact isC7 | exact isC13) ?_
  refine f_iconst hZ dX0_takeOver_9 ?_
  refine f_iconst hZ dX0_takeOver_10 ?_
  refine f_copy hZ dX0_takeOver_11 wk_X0_44 rfl rfl rfl rfl (by omega) (by omega) (by omega) (by omega) (by omega) (Nat.le_of_ble_eq_true rfl) ?_
  refine f_aload_n hZ dX0_takeOver_14 rfl ?_
  refine gX0_15 hZ dX0_takeOver_15 (by first | exact isC1 | exact isC7 | exact isC13) ?_
  refine f_iconst hZ dX0_takeOver_18 ?_
  refine f_aload_n hZ dX0_takeOver_19 rfl ?_
  refine gX0_15 hZ dX0_takeOver_20 (by first | exact isC1 | exact isC7 | exact isC13) ?_
  refine f_iconst hZ dX0_takeOver_23 ?_
  refine f_iconst hZ dX0_takeOver_24 ?_
  refine f_copy hZ dX0_takeOver_25 wk_X0_44 rfl rfl rfl rfl (by omega) (by omega) (by omega) (by omega) (by omega) (Nat.le_of_ble_eq_true rfl) ?_
  refine f_aload_n hZ dX0_takeOver_28 rfl ?_
  refine gX0_18 hZ dX0_takeOver_29 (by first | exact isC1 | exact isC7 | exact isC13) ?_
  refine f_iconst hZ dX0_takeOver_32 ?_
  refine f_aload_n hZ dX0_takeOver_33 rfl ?_
  refine gX0_18 hZ dX0_takeOver_34 (by first | exact isC1 | exact isC7 | exact isC13) ?_
  refine f_iconst hZ dX0_takeOver_37 ?_
  refine f_iconst hZ dX0_takeOver_38 ?_
  refine f_copy hZ dX0_takeOver_39 wk_X0_44 rfl rfl rfl rfl (by omega) (by omega) (by omega) (by omega) (by omega) (Nat.le_of_ble_eq_true rfl) ?_
  refine f_aload_n hZ dX0_takeOver_42 rfl ?_
  refine gX0_21 hZ dX0_takeOver_43 (by first | exact isC1 | exact isC7 | exact isC13) ?_
  refine f_iconst hZ dX0_takeOver_46 ?_
  refine f_aload_n hZ dX0_takeOver_47 rfl ?_
  refine gX0_21 hZ dX0_takeOver_48 (by first | exact isC1 | exact isC7 | exact isC13) ?_
  refine f_iconst hZ dX0_takeOver_51 ?_
  refine f_iconst hZ dX0_takeOver_52 ?_
  refine f_copy hZ dX0_takeOver_53 wk_X0_44 rfl rfl rfl rfl (by omega) (by omega) (by omega) (by omega) (by omega) (Nat.le_of_ble_eq_true rfl) ?_
  refine f_aload_n hZ dX0_takeOver_56 rfl ?_
  refine gX0_24 hZ dX0_takeOver_57 (by first | exact isC1 | exact isC7 | exact isC13) ?_
  refine f_iconst hZ dX0_takeOver_60 ?_
  refine f_aload_n hZ dX0_takeOver_61 rfl ?_
  refine gX0_24 hZ dX0_takeOver_62 (by first | exact isC1 | exact isC7 | exact isC13) ?_
  refine f_iconst hZ dX0_takeOver_65 ?_
  refine f_iconst hZ dX0_takeOver_66 ?_
  refine f_copy hZ dX0_takeOver_67 wk_X0_44 rfl rfl rfl rfl (by omega) (by omega) (by omega) (by omega) (by omega) (Nat.le_of_ble_eq_true rfl) ?_
  refine f_aload_n hZ dX0_takeOver_70 rfl ?_
  refine f_aload_n hZ dX0_takeOver_71 rfl ?_
  refine gX0_27 hZ dX0_takeOver_72 (by first | exact isC1 | exact isC7 | exact isC13) (fun r72 => ?_)
  try simp only [cpM, up_app, Nat.add_left_cancel_iff, Nat.left_eq_add, Nat.add_eq_left, Nat.reduceEqDiff, Int.reduceEq, and_true, true_and, and_self, and_false, false_and, if_true, if_false, reduceIte] at r72 ⊢
  refine pX0_27 hZ dX0_takeOver_75 (by first | exact isC1 | exact isC7 | exact isC13) (by omega) ?_
  refine f_aload_n hZ dX0_takeOver_78 rfl ?_
  refine f_aload_n hZ dX0_takeOver_79 rfl ?_
  refine gX0_31 hZ dX0_takeOver_80 (by first | exact isC1 | exact isC7 | exact isC13) (fun r80 => ?_)
  try simp only [cpM, up_app, Nat.add_left_cancel_iff, Nat.left_eq_add, Nat.add_eq_left, Nat.reduceEqDiff, Int.reduceEq, and_true, true_and, and_self, and_false, false_and, if_true, if_false, reduceIte] at r80 ⊢
  refine pX0_31 hZ dX0_takeOver_83 (by first | exact isC1 | exact isC7 | exact isC13) (by omega) ?_
  refine f_aload_n hZ dX0_takeOver_86 rfl ?_
  refine f_aload_n hZ dX0_takeOver_87 rfl ?_
  refine gX0_34 hZ dX0_takeOver_88 (by first | exact isC1 | exact isC7 | exact isC13) (fun r88 => ?_)
  try simp only [cpM, up_app, Nat.add_left_cancel_iff, Nat.left_eq_add, Nat.add_eq_left, Nat.reduceEqDiff, Int.reduceEq, and_true, true_and, and_self, and_false, false_and, if_true, if_false, reduceIte] at r88 ⊢
  refine pX0_34 hZ dX0_takeOver_91 (by first | exact isC1 | exact isC7 | exact isC13) (by omega) ?_
  refine f_aload_n hZ dX0_takeOver_94 rfl ?_
  refine f_aload_n hZ dX0_takeOver_95 rfl ?_
  refine gX0_37 hZ dX0_takeOver_96 (by first | exact isC1 | exact isC7 | exact isC13) (fun r96 => ?_)
  try simp only [cpM, up_app, Nat.add_left_cancel_iff, Nat.left_eq_add, Nat.add_eq_left, Nat.reduceEqDiff, Int.reduceEq, and_true, true_and, and_self, and_false, false_and, if_true, if_false, reduceIte] at r96 ⊢
  refine pX0_37 hZ dX0_takeOver_99 (by first | exact isC1 | exact isC7 | exact isC13) (by omega) ?_
  exact f_retV hZ hR dX0_takeOver_102 rfl (by rfl)

