/-! iteration over memories -/
def itMN (f : Int → fM → fM) (M : fM) : Nat → fM
  | 0 => M
  | k + 1 => f k (itMN f M k)
def itMZ (f : Int → fM → fM) (M : fM) (w : Int) : fM := itMN f M w.toNat
theorem itMZ_0 (f : Int → fM → fM) (M : fM) : itMZ f M 0 = M := rfl
theorem itMZ_succ (f : Int → fM → fM) (M : fM) {w : Int} (h : 0 ≤ w) : itMZ f M (w + 1) = f w (itMZ f M w) := by
  unfold itMZ
  rw [show (w + 1).toNat = w.toNat + 1 by omega]
  show f (w.toNat : Int) _ = _
  rw [Int.toNat_of_nonneg h]
theorem itMZ_inv {f : Int → fM → fM} {M : fM} (P : fM → Prop) (h0 : P M) (hs : ∀ k N, P N → P (f k N)) (w : Int) : P (itMZ f M w) := by
  unfold itMZ
  generalize w.toNat = n
  induction n with
  | zero => exact h0
  | succ n ih => exact hs n _ ih
/-! the model's -/
def wkS (N : fM) (k n p : Int) : fM := if wickOk k n p ∧ N 59 12 < 4 then wickM N k n p else N
def wkC (c k n p : Int) : Int := if wickOk k n p ∧ c < 4 then 1 else 0
theorem wkC_01 (c k n p : Int) : wkC c k n p = 0 ∨ wkC c k n p = 1 := by unfold wkC; split <;> omega
abbrev wkF (I : Int → Int) (a : Int) : Int → fM → fM := fun k N => wkS N (I (a + 3 * k)) (I (a + 3 * k + 1)) (I (a + 3 * k + 2))
def wkP (M N : fM) : Prop := (0 ≤ N 59 12 ∧ N 59 12 ≤ 4) ∧ N 87 = M 87 ∧ N 86 = M 86
theorem wkS_P {M N : fM} {k n p : Int} (h : wkP M N) : wkP M (wkS N k n p) := by
  unfold wkS
  split
  · next q =>
    refine ⟨?_, h.2.1, h.2.2⟩
    show 0 ≤ N 59 12 + 1 ∧ N 59 12 + 1 ≤ 4
    have := h.1
    omega
  · exact h
theorem wk_conv {N M' : fM} {k n p r : Int} (hn : 0 ≤ N 59 12 ∧ N 59 12 ≤ 4) (h : (¬ wickOk k n p ∧ r = -2 ∧ M' = N) ∨ (wickOk k n p ∧ N 59 12 = 4 ∧ r = -4 ∧ M' = N) ∨ (wickOk k n p ∧ N 59 12 < 4 ∧ r = N 59 12 ∧ M' = wickM N k n p)) : M' = wkS N k n p ∧ ((wkC (N 59 12) k n p = 1 ∧ 0 ≤ r) ∨ (wkC (N 59 12) k n p = 0 ∧ r < 0)) := by
  unfold wkS wkC
  rcases h with ⟨h1, h2, rfl⟩ | ⟨h1, h2, h3, rfl⟩ | ⟨h1, h2, h3, rfl⟩
  · rw [if_neg (fun q => h1 q.1), if_neg (fun q => h1 q.1)]; exact ⟨rfl, Or.inr ⟨rfl, by omega⟩⟩
  · rw [if_neg (fun q => by have := q.2; omega), if_neg (fun q => by have := q.2; omega)]; exact ⟨rfl, Or.inr ⟨rfl, by omega⟩⟩
  · rw [if_pos ⟨h1, h2⟩, if_pos ⟨h1, h2⟩]; exact ⟨rfl, Or.inl ⟨rfl, by omega⟩⟩
abbrev wkBad (s t n : Int) : Prop := ¬ ((0 ≤ s ∧ s < 4) ∧ (0 ≤ t ∧ t ≤ 2) ∧ (0 ≤ n ∧ n ≤ 5))
abbrev wkRow (M : fM) (s a k : Int) : Prop := 0 ≤ a ∧ a ≤ M 86 s - 3 * k - 3
set_option maxRecDepth 20000 in
set_option maxHeartbeats 4000000 in
theorem t_X7_wicks {X : fX} {M : fM} {d : Nat} {s t a n : Int} (hs : rg s) (ht : rg t) (ha : rg a) (hnn : rg n) (hW : WfT M) (hn : 0 ≤ M 59 12 ∧ M 59 12 ≤ 4) : fC X (d + 2) mX7_wicks [.ref (xa X 59), .int (iv s), .int (iv t), .int (iv a), .int (iv n)] M (QI fun r M' => (wkBad s t n ∧ r = -2 ∧ M' = M) ∨ (¬ wkBad s t n ∧ M 84 s = 1 ∧ M 85 s ≠ t ∧ r = -13 ∧ M' = M) ∨ (¬ wkBad s t n ∧ M 84 s = 0 ∧ r = -11 ∧ M' = M) ∨ (¬ wkBad s t n ∧ (M 84 s = 1 ∧ M 85 s = t) ∧ ∃ w, (0 ≤ w ∧ w < n) ∧ (∀ j, 0 ≤ j → j < w → wkRow M s a j) ∧ ¬ wkRow M s a w ∧ r = -12 ∧ M' = itMZ (wkF (M 87) (40 * s + a)) M w) ∨ (¬ wkBad s t n ∧ (M 84 s = 1 ∧ M 85 s = t) ∧ (∀ j, 0 ≤ j → j < n → wkRow M s a j) ∧ r = sumZ (fun k => wkC (itMZ (wkF (M 87) (40 * s + a)) M k 59 12) (M 87 (40 * s + a + 3 * k)) (M 87 (40 * s + a + 3 * k + 1)) (M 87 (40 * s + a + 3 * k + 2))) n ∧ M' = itMZ (wkF (M 87) (40 * s + a)) M n)) := by
  refine fC.of (L := [_, _, _, _, _, _, _, _]) (by decide +kernel) rfl (Nat.le_of_ble_eq_true rfl) (fun Z hZ hR => ?_)
  have loop : ∀ (m : Nat) (w : Int), 0 ≤ w → w + m = n → (¬ wkBad s t n ∧ (M 84 s = 1 ∧ M 85 s = t)) → (0 ≤ M 86 s ∧ M 86 s ≤ 40) → (∀ j, 0 ≤ j → j < w → wkRow M s a j) → fG X mX7_wicks Z 75 [.ref (xa X 59), .int (iv s), .int (iv t), .int (iv a), .int (iv n), .int (iv (sumZ (fun k => wkC (itMZ (wkF (M 87) (40 * s + a)) M k 59 12) (M 87 (40 * s + a + 3 * k)) (M 87 (40 * s + a + 3 * k + 1)) (M 87 (40 * s + a + 3 * k + 2))) w)), .int (iv w), .null] [] (itMZ (wkF (M 87) (40 * s + a)) M w) := by
    intro m
    induction m with
    | zero =>
      intro w h0 hw hbd hsz hrow
      have hP : wkP M (itMZ (wkF (M 87) (40 * s + a)) M w) := itMZ_inv (wkP M) ⟨hn, rfl, rfl⟩ (fun k N h => wkS_P h) w
      have hOw : 0 ≤ sumZ (fun k => wkC (itMZ (wkF (M 87) (40 * s + a)) M k 59 12) (M 87 (40 * s + a + 3 * k)) (M 87 (40 * s + a + 3 * k + 1)) (M 87 (40 * s + a + 3 * k + 2))) w ∧ sumZ (fun k => wkC (itMZ (wkF (M 87) (40 * s + a)) M k 59 12) (M 87 (40 * s + a + 3 * k)) (M 87 (40 * s + a + 3 * k + 1)) (M 87 (40 * s + a + 3 * k + 2))) w ≤ 5 := by
        have := sumZ_bd (f := (fun k => wkC (itMZ (wkF (M 87) (40 * s + a)) M k 59 12) (M 87 (40 * s + a + 3 * k)) (M 87 (40 * s + a + 3 * k + 1)) (M 87 (40 * s + a + 3 * k + 2)))) (a := 0) (b := 1) (by omega) (by omega) h0 (fun i _ _ => by have := wkC_01 (itMZ (wkF (M 87) (40 * s + a)) M i 59 12) (M 87 (40 * s + a + 3 * i)) (M 87 (40 * s + a + 3 * i + 1)) (M 87 (40 * s + a + 3 * i + 2)); omega)
        omega
      refine f_iload hZ dX7_wicks_75 rfl ?_
      refine f_iload hZ dX7_wicks_77 rfl ?_
      refine f_ige (tgt := 167) hZ dX7_wicks_79 rfl (by omega) (by omega) (fun h79 => ?_) (fun h79 => ?_)
      · refine f_iload hZ dX7_wicks_167 rfl ?_
        exact f_retI hZ hR dX7_wicks_169 rfl (by omega) (by rw [show w = n by omega] at hP hOw ⊢; exact Or.inr (Or.inr (Or.inr (Or.inr ⟨hbd.1, hbd.2, fun j h1 h2 => hrow j h1 (by omega), rfl, rfl⟩))))
      · exfalso; omega
    | succ m ih =>
      intro w h0 hw hbd hsz hrow
      have hP : wkP M (itMZ (wkF (M 87) (40 * s + a)) M w) := itMZ_inv (wkP M) ⟨hn, rfl, rfl⟩ (fun k N h => wkS_P h) w
      have hOw : 0 ≤ sumZ (fun k => wkC (itMZ (wkF (M 87) (40 * s + a)) M k 59 12) (M 87 (40 * s + a + 3 * k)) (M 87 (40 * s + a + 3 * k + 1)) (M 87 (40 * s + a + 3 * k + 2))) w ∧ sumZ (fun k => wkC (itMZ (wkF (M 87) (40 * s + a)) M k 59 12) (M 87 (40 * s + a + 3 * k)) (M 87 (40 * s + a + 3 * k + 1)) (M 87 (40 * s + a + 3 * k + 2))) w ≤ 5 := by
        have := sumZ_bd (f := (fun k => wkC (itMZ (wkF (M 87) (40 * s + a)) M k 59 12) (M 87 (40 * s + a + 3 * k)) (M 87 (40 * s + a + 3 * k + 1)) (M 87 (40 * s + a + 3 * k + 2)))) (a := 0) (b := 1) (by omega) (by omega) h0 (fun i _ _ => by have := wkC_01 (itMZ (wkF (M 87) (40 * s + a)) M i 59 12) (M 87 (40 * s + a + 3 * i)) (M 87 (40 * s + a + 3 * i + 1)) (M 87 (40 * s + a + 3 * i + 2)); omega)
        omega
      refine f_iload hZ dX7_wicks_75 rfl ?_
      refine f_iload hZ dX7_wicks_77 rfl ?_
      refine f_ige (tgt := 167) hZ dX7_wicks_79 rfl (by omega) (by omega) (fun h79 => ?_) (fun h79 => ?_)
      · exfalso; omega
      · refine f_iload_n hZ dX7_wicks_82 rfl ?_
        refine f_lt (tgt := 103) hZ dX7_wicks_83 rfl (by omega) (fun h83 => ?_) (fun h83 => ?_)
        · refine f_bipush hZ dX7_wicks_103 ?_
          exact f_retI hZ hR dX7_wicks_105 rfl (by omega) (by exact Or.inr (Or.inr (Or.inr (Or.inl ⟨hbd.1, hbd.2, w, ⟨by omega, by omega⟩, hrow, by omega, rfl, rfl⟩))))
        · refine f_iload_n hZ dX7_wicks_86 rfl ?_
          refine f_aload_n hZ dX7_wicks_87 rfl ?_
          refine gX7_97 hZ dX7_wicks_88 ?_
          refine f_iload_n hZ dX7_wicks_91 rfl ?_
          refine f_iaload hZ dX7_wicks_92 (by first | rfl | exact hC.t1 | exact hC.t2 | exact hC.t3 | exact hC.t4 | exact hC.t5) (by first | rfl | exact hC.l1 | exact hC.l2 | exact hC.l3 | exact hC.l4 | exact hC.l5) (by omega) (by omega) (fun r92 => ?_)
          try simp only [hP.2.1, hP.2.2] at r92 ⊢
          refine f_iconst hZ dX7_wicks_93 ?_
          refine f_iload hZ dX7_wicks_94 rfl ?_
          refine f_imul hZ dX7_wicks_96 ?_
          refine f_isub hZ dX7_wicks_97 ?_
          refine f_iconst hZ dX7_wicks_98 ?_
          refine f_isub hZ dX7_wicks_99 ?_
          refine f_ile (tgt := 106) hZ dX7_wicks_100 rfl (by omega) (by omega) (fun h100 => ?_) (fun h100 => ?_)
          · refine f_bipush hZ dX7_wicks_106 ?_
            refine f_iload_n hZ dX7_wicks_108 rfl ?_
            refine f_imul hZ dX7_wicks_109 ?_
            refine f_iload_n hZ dX7_wicks_110 rfl ?_
            refine f_iadd hZ dX7_wicks_111 ?_
            refine f_iconst hZ dX7_wicks_112 ?_
            refine f_iload hZ dX7_wicks_113 rfl ?_
            refine f_imul hZ dX7_wicks_115 ?_
            refine f_iadd hZ dX7_wicks_116 ?_
            refine f_istore (L' := [_, _, _, _, _, _, _, _]) hZ dX7_wicks_117 rfl rfl ?_
            refine f_iload hZ dX7_wicks_119 rfl ?_
            refine f_aload_n hZ dX7_wicks_121 rfl ?_
            refine f_aload_n hZ dX7_wicks_122 rfl ?_
            refine gX7_100 hZ dX7_wicks_123 ?_
            refine f_iload hZ dX7_wicks_126 rfl ?_
            refine f_iaload hZ dX7_wicks_128 (by first | rfl | exact hC.t1 | exact hC.t2 | exact hC.t3 | exact hC.t4 | exact hC.t5) (by first | rfl | exact hC.l1 | exact hC.l2 | exact hC.l3 | exact hC.l4 | exact hC.l5) (by omega) (by omega) (fun r128 => ?_)
            try simp only [hP.2.1, hP.2.2] at r128 ⊢
            refine f_aload_n hZ dX7_wicks_129 rfl ?_
            refine gX7_100 hZ dX7_wicks_130 ?_
            refine f_iload hZ dX7_wicks_133 rfl ?_
            refine f_iconst hZ dX7_wicks_135 ?_
            refine f_iadd hZ dX7_wicks_136 ?_
            refine f_iaload hZ dX7_wicks_137 (by first | rfl | exact hC.t1 | exact hC.t2 | exact hC.t3 | exact hC.t4 | exact hC.t5) (by first | rfl | exact hC.l1 | exact hC.l2 | exact hC.l3 | exact hC.l4 | exact hC.l5) (by omega) (by omega) (fun r137 => ?_)
            try simp only [hP.2.1, hP.2.2] at r137 ⊢
            refine f_aload_n hZ dX7_wicks_138 rfl ?_
            refine gX7_100 hZ dX7_wicks_139 ?_
            refine f_iload hZ dX7_wicks_142 rfl ?_
            refine f_iconst hZ dX7_wicks_144 ?_
            refine f_iadd hZ dX7_wicks_145 ?_
            refine f_iaload hZ dX7_wicks_146 (by first | rfl | exact hC.t1 | exact hC.t2 | exact hC.t3 | exact hC.t4 | exact hC.t5) (by first | rfl | exact hC.l1 | exact hC.l2 | exact hC.l3 | exact hC.l4 | exact hC.l5) (by omega) (by omega) (fun r146 => ?_)
            try simp only [hP.2.1, hP.2.2] at r146 ⊢
            refine vX7_376 hZ dX7_wicks_147 (fC.mono (t_X7_wick (by omega) (by omega) (by omega) hP.1) (fun x M1 _ h => wk_conv hP.1 h)) (fun a147 M147 r147 h147 => ?_)
            obtain ⟨rfl, h147⟩ := h147
            refine f_lt (tgt := 157) hZ dX7_wicks_150 rfl (by omega) (fun h150 => ?_) (fun h150 => ?_)
            · refine f_iconst hZ dX7_wicks_157 ?_
              refine f_iadd hZ dX7_wicks_158 ?_
              refine f_istore (L' := [_, _, _, _, _, _, _, _]) hZ dX7_wicks_159 rfl rfl ?_
              have hW0 := wkC_01 ((itMZ (wkF (M 87) (40 * s + a)) M w) 59 12) (M 87 (40 * s + a + 3 * w)) (M 87 (40 * s + a + 3 * w + 1)) (M 87 (40 * s + a + 3 * w + 2))
              first | (have hW1 : wkC ((itMZ (wkF (M 87) (40 * s + a)) M w) 59 12) (M 87 (40 * s + a + 3 * w)) (M 87 (40 * s + a + 3 * w + 1)) (M 87 (40 * s + a + 3 * w + 2)) = 1 := by omega) | skip
              first | (have hW1 : wkC ((itMZ (wkF (M 87) (40 * s + a)) M w) 59 12) (M 87 (40 * s + a + 3 * w)) (M 87 (40 * s + a + 3 * w + 1)) (M 87 (40 * s + a + 3 * w + 2)) = 0 := by omega) | skip
              refine f_iinc (L' := [_, _, _, _, _, _, _, _]) hZ dX7_wicks_161 rfl rfl ?_
              refine f_goto (tgt := 75) hZ dX7_wicks_164 rfl ?_
              refine f_forget (L' := [_, _, _, _, _, _, _, .null]) ⟨Or.inl rfl, Or.inl rfl, Or.inl rfl, Or.inl rfl, Or.inl rfl, Or.inl rfl, Or.inl rfl, Or.inr rfl, trivial⟩ ?_
              have hh := ih (w + 1) (by omega) (by omega) hbd hsz (fun j h1 h2 => by
                by_cases hj : j = w
                · subst hj; omega
                · exact hrow j h1 (by omega))
              rw [sumZ_succ _ h0, itMZ_succ _ _ h0] at hh
              simp only [hW1] at hh
              exact hh
            · refine f_iconst hZ dX7_wicks_153 ?_
              refine f_goto (tgt := 158) hZ dX7_wicks_154 rfl ?_
              refine f_iadd hZ dX7_wicks_158 ?_
              refine f_istore (L' := [_, _, _, _, _, _, _, _]) hZ dX7_wicks_159 rfl rfl ?_
              have hW0 := wkC_01 ((itMZ (wkF (M 87) (40 * s + a)) M w) 59 12) (M 87 (40 * s + a + 3 * w)) (M 87 (40 * s + a + 3 * w + 1)) (M 87 (40 * s + a + 3 * w + 2))
              first | (have hW1 : wkC ((itMZ (wkF (M 87) (40 * s + a)) M w) 59 12) (M 87 (40 * s + a + 3 * w)) (M 87 (40 * s + a + 3 * w + 1)) (M 87 (40 * s + a + 3 * w + 2)) = 1 := by omega) | skip
              first | (have hW1 : wkC ((itMZ (wkF (M 87) (40 * s + a)) M w) 59 12) (M 87 (40 * s + a + 3 * w)) (M 87 (40 * s + a + 3 * w + 1)) (M 87 (40 * s + a + 3 * w + 2)) = 0 := by omega) | skip
              refine f_iinc (L' := [_, _, _, _, _, _, _, _]) hZ dX7_wicks_161 rfl rfl ?_
              refine f_goto (tgt := 75) hZ dX7_wicks_164 rfl ?_
              refine f_forget (L' := [_, _, _, _, _, _, _, .null]) ⟨Or.inl rfl, Or.inl rfl, Or.inl rfl, Or.inl rfl, Or.inl rfl, Or.inl rfl, Or.inl rfl, Or.inr rfl, trivial⟩ ?_
              have hh := ih (w + 1) (by omega) (by omega) hbd hsz (fun j h1 h2 => by
                by_cases hj : j = w
                · subst hj; omega
                · exact hrow j h1 (by omega))
              rw [sumZ_succ _ h0, itMZ_succ _ _ h0] at hh
              simp only [hW1] at hh
              exact hh
          · refine f_bipush hZ dX7_wicks_103 ?_
            exact f_retI hZ hR dX7_wicks_105 rfl (by omega) (by exact Or.inr (Or.inr (Or.inr (Or.inl ⟨hbd.1, hbd.2, w, ⟨by omega, by omega⟩, hrow, by omega, rfl, rfl⟩))))
  refine f_iload_n hZ dX7_wicks_0 rfl ?_
  refine sX7_346 hZ dX7_wicks_1 (t_X7_isSheet (by omega)) (fun a1 M1 r1 h1 => ?_)
  obtain ⟨e1, h1⟩ := h1
  replace e1 := e1.symm
  subst e1
  refine f_eq (tgt := 32) hZ dX7_wicks_4 rfl (by omega) (fun h4 => ?_) (fun h4 => ?_)
  · refine f_bipush hZ dX7_wicks_32 ?_
    exact f_retI hZ hR dX7_wicks_34 rfl (by omega) (by first | exact Or.inl ⟨by omega, rfl, rfl⟩ | exact Or.inr (Or.inl ⟨by omega, by omega, by omega, rfl, rfl⟩) | exact Or.inr (Or.inr (Or.inl ⟨by omega, by omega, rfl, rfl⟩)))
  · refine f_iload_n hZ dX7_wicks_7 rfl ?_
    refine f_i2l hZ dX7_wicks_8 (by omega) ?_
    refine f_lconst0 hZ dX7_wicks_9 ?_
    refine f_ldc2 (v := (2 : Int64)) hZ (2) dX7_wicks_10 (tb_in 1018 (by decide +kernel) (by decide +kernel)) (by decide) ?_
    refine sX7_113 hZ dX7_wicks_13 (t_X7_in (by omega) (by omega) (by omega)) (fun a13 M13 r13 h13 => ?_)
    obtain ⟨e13, h13⟩ := h13
    replace e13 := e13.symm
    subst e13
    refine f_eq (tgt := 32) hZ dX7_wicks_16 rfl (by omega) (fun h16 => ?_) (fun h16 => ?_)
    · refine f_bipush hZ dX7_wicks_32 ?_
      exact f_retI hZ hR dX7_wicks_34 rfl (by omega) (by first | exact Or.inl ⟨by omega, rfl, rfl⟩ | exact Or.inr (Or.inl ⟨by omega, by omega, by omega, rfl, rfl⟩) | exact Or.inr (Or.inr (Or.inl ⟨by omega, by omega, rfl, rfl⟩)))
    · refine f_iload hZ dX7_wicks_19 rfl ?_
      refine f_i2l hZ dX7_wicks_21 (by omega) ?_
      refine f_lconst0 hZ dX7_wicks_22 ?_
      refine f_ldc2 (v := (5 : Int64)) hZ (5) dX7_wicks_23 (tb_in 1004 (by decide +kernel) (by decide +kernel)) (by decide) ?_
      refine sX7_113 hZ dX7_wicks_26 (t_X7_in (by omega) (by omega) (by omega)) (fun a26 M26 r26 h26 => ?_)
      obtain ⟨e26, h26⟩ := h26
      replace e26 := e26.symm
      subst e26
      refine f_ne (tgt := 35) hZ dX7_wicks_29 rfl (by omega) (fun h29 => ?_) (fun h29 => ?_)
      · have hq := hW s (by omega) (by omega)
        refine f_aload_n hZ dX7_wicks_35 rfl ?_
        refine gX7_90 hZ dX7_wicks_36 ?_
        refine f_iload_n hZ dX7_wicks_39 rfl ?_
        refine f_baload hZ dX7_wicks_40 (by first | rfl | exact hC.t1 | exact hC.t2 | exact hC.t3 | exact hC.t4 | exact hC.t5) (by first | rfl | exact hC.l1 | exact hC.l2 | exact hC.l3 | exact hC.l4 | exact hC.l5) (by omega) (by omega) (fun r40 => ?_)
        refine f_eq (tgt := 57) hZ dX7_wicks_41 rfl (by omega) (fun h41 => ?_) (fun h41 => ?_)
        · refine f_aload_n hZ dX7_wicks_57 rfl ?_
          refine gX7_90 hZ dX7_wicks_58 ?_
          refine f_iload_n hZ dX7_wicks_61 rfl ?_
          refine f_baload hZ dX7_wicks_62 (by first | rfl | exact hC.t1 | exact hC.t2 | exact hC.t3 | exact hC.t4 | exact hC.t5) (by first | rfl | exact hC.l1 | exact hC.l2 | exact hC.l3 | exact hC.l4 | exact hC.l5) (by omega) (by omega) (fun r62 => ?_)
          refine f_ne (tgt := 69) hZ dX7_wicks_63 rfl (by omega) (fun h63 => ?_) (fun h63 => ?_)
          · refine f_iconst hZ dX7_wicks_69 ?_
            refine f_istore (L' := [_, _, _, _, _, _, _, _]) hZ dX7_wicks_70 rfl rfl ?_
            refine f_iconst hZ dX7_wicks_72 ?_
            refine f_istore (L' := [_, _, _, _, _, _, _, _]) hZ dX7_wicks_73 rfl rfl ?_
            exact loop n.toNat 0 (by omega) (by omega) ⟨by omega, by omega⟩ (by omega) (fun j h1 h2 => by omega)
          · refine f_bipush hZ dX7_wicks_66 ?_
            exact f_retI hZ hR dX7_wicks_68 rfl (by omega) (by first | exact Or.inl ⟨by omega, rfl, rfl⟩ | exact Or.inr (Or.inl ⟨by omega, by omega, by omega, rfl, rfl⟩) | exact Or.inr (Or.inr (Or.inl ⟨by omega, by omega, rfl, rfl⟩)))
        · refine f_aload_n hZ dX7_wicks_44 rfl ?_
          refine gX7_94 hZ dX7_wicks_45 ?_
          refine f_iload_n hZ dX7_wicks_48 rfl ?_
          refine f_iaload hZ dX7_wicks_49 (by first | rfl | exact hC.t1 | exact hC.t2 | exact hC.t3 | exact hC.t4 | exact hC.t5) (by first | rfl | exact hC.l1 | exact hC.l2 | exact hC.l3 | exact hC.l4 | exact hC.l5) (by omega) (by omega) (fun r49 => ?_)
          refine f_iload_n hZ dX7_wicks_50 rfl ?_
          refine f_ieq (tgt := 57) hZ dX7_wicks_51 rfl (by omega) (by omega) (fun h51 => ?_) (fun h51 => ?_)
          · refine f_aload_n hZ dX7_wicks_57 rfl ?_
            refine gX7_90 hZ dX7_wicks_58 ?_
            refine f_iload_n hZ dX7_wicks_61 rfl ?_
            refine f_baload hZ dX7_wicks_62 (by first | rfl | exact hC.t1 | exact hC.t2 | exact hC.t3 | exact hC.t4 | exact hC.t5) (by first | rfl | exact hC.l1 | exact hC.l2 | exact hC.l3 | exact hC.l4 | exact hC.l5) (by omega) (by omega) (fun r62 => ?_)
            refine f_ne (tgt := 69) hZ dX7_wicks_63 rfl (by omega) (fun h63 => ?_) (fun h63 => ?_)
            · refine f_iconst hZ dX7_wicks_69 ?_
              refine f_istore (L' := [_, _, _, _, _, _, _, _]) hZ dX7_wicks_70 rfl rfl ?_
              refine f_iconst hZ dX7_wicks_72 ?_
              refine f_istore (L' := [_, _, _, _, _, _, _, _]) hZ dX7_wicks_73 rfl rfl ?_
              exact loop n.toNat 0 (by omega) (by omega) ⟨by omega, by omega⟩ (by omega) (fun j h1 h2 => by omega)
            · refine f_bipush hZ dX7_wicks_66 ?_
              exact f_retI hZ hR dX7_wicks_68 rfl (by omega) (by first | exact Or.inl ⟨by omega, rfl, rfl⟩ | exact Or.inr (Or.inl ⟨by omega, by omega, by omega, rfl, rfl⟩) | exact Or.inr (Or.inr (Or.inl ⟨by omega, by omega, rfl, rfl⟩)))
          · refine f_bipush hZ dX7_wicks_54 ?_
            exact f_retI hZ hR dX7_wicks_56 rfl (by omega) (by first | exact Or.inl ⟨by omega, rfl, rfl⟩ | exact Or.inr (Or.inl ⟨by omega, by omega, by omega, rfl, rfl⟩) | exact Or.inr (Or.inr (Or.inl ⟨by omega, by omega, rfl, rfl⟩)))
      · refine f_bipush hZ dX7_wicks_32 ?_
        exact f_retI hZ hR dX7_wicks_34 rfl (by omega) (by first | exact Or.inl ⟨by omega, rfl, rfl⟩ | exact Or.inr (Or.inl ⟨by omega, by omega, by omega, rfl, rfl⟩) | exact Or.inr (Or.inr (Or.inl ⟨by omega, by omega, rfl, rfl⟩)))

def wkK (N : fM) (k n p : Int) : fM := if wickOk k n p ∧ N 1 5 < 4 then addK N k n p else N
theorem addK_ge {N : fM} {k n p : Int} {c : Nat} (h : 40 ≤ c) : addK N k n p c = N c := by
  unfold addK fgt
  rw [up_ne (by omega), up_ne (by omega), up_ne (by omega), up_ne (by omega), up_ne (by omega), up_ne (by omega), up_ne (by omega)]
abbrev wkKF (I : Int → Int) (a : Int) : Int → fM → fM := fun k N => wkK N (I (a + k * 3)) (I (a + k * 3 + 1)) (I (a + k * 3 + 2))
def wkQ (M N : fM) : Prop := (0 ≤ N 1 5 ∧ N 1 5 ≤ 4) ∧ ∀ c, 40 ≤ c → N c = M c
theorem wkK_Q {M N : fM} {k n p : Int} (h : wkQ M N) : wkQ M (wkK N k n p) := by
  unfold wkK
  split
  · next q =>
    refine ⟨?_, fun c hc => by rw [addK_ge hc]; exact h.2 c hc⟩
    show 0 ≤ N 1 5 + 1 ∧ N 1 5 + 1 ≤ 4
    have := h.1
    omega
  · exact h
theorem wkK_conv {N M' : fM} {k n p r : Int} (hn : 0 ≤ N 1 5 ∧ N 1 5 ≤ 4) (h : (¬ wickOk k n p ∧ r = -2 ∧ M' = N) ∨ (wickOk k n p ∧ N 1 5 = 4 ∧ r = -4 ∧ M' = N) ∨ (wickOk k n p ∧ N 1 5 < 4 ∧ r = N 1 5 ∧ M' = addK N k n p)) : M' = wkK N k n p ∧ ((wkC (N 1 5) k n p = 1 ∧ 0 ≤ r) ∨ (wkC (N 1 5) k n p = 0 ∧ r < 0)) := by
  unfold wkK wkC
  rcases h with ⟨h1, h2, rfl⟩ | ⟨h1, h2, h3, rfl⟩ | ⟨h1, h2, h3, rfl⟩
  · rw [if_neg (fun q => h1 q.1), if_neg (fun q => h1 q.1)]; exact ⟨rfl, Or.inr ⟨rfl, by omega⟩⟩
  · rw [if_neg (fun q => by have := q.2; omega), if_neg (fun q => by have := q.2; omega)]; exact ⟨rfl, Or.inr ⟨rfl, by omega⟩⟩
  · rw [if_pos ⟨h1, h2⟩, if_pos ⟨h1, h2⟩]; exact ⟨rfl, Or.inl ⟨rfl, by omega⟩⟩
theorem WfS.of {M N : fM} (h : WfS M) (h1 : N 55 = M 55) (h2 : N 56 = M 56) : WfS N := fun s h3 h4 => by rw [h1, h2]; exact h s h3 h4
set_option maxRecDepth 20000 in
set_option maxHeartbeats 4000000 in
theorem t_X6_wickBy {X : fX} {M : fM} {d : Nat} {s i : Int} (hs : 0 ≤ s ∧ s < 4) (hr : reachP M s i 3) (hW : WfS M) (hn : 0 ≤ M 1 5 ∧ M 1 5 ≤ 4) : fC X (d + 4) mX6_wickBy [.ref (xa X 0), .int (iv s), .int (iv i)] M (QI fun r M' => M' = wkK M (M (51 + s.toNat) i) (M (51 + s.toNat) (i + 1)) (M (51 + s.toNat) (i + 2)) ∧ ((wkC (M 1 5) (M (51 + s.toNat) i) (M (51 + s.toNat) (i + 1)) (M (51 + s.toNat) (i + 2)) = 1 ∧ 0 ≤ r) ∨ (wkC (M 1 5) (M (51 + s.toNat) i) (M (51 + s.toNat) (i + 1)) (M (51 + s.toNat) (i + 2)) = 0 ∧ r < 0))) := by
  refine fC.of (L := [_, _, _]) (by decide +kernel) rfl (Nat.le_of_ble_eq_true rfl) (fun Z hZ hR => ?_)
  have hq := hW s hs.1 hs.2
  refine f_aload_n hZ dX6_wickBy_0 rfl ?_
  refine f_aload_n hZ dX6_wickBy_1 rfl ?_
  refine gX6_41 hZ dX6_wickBy_2 ?_
  refine f_iload_n hZ dX6_wickBy_5 rfl ?_
  refine f_iload_n hZ dX6_wickBy_6 rfl ?_
  refine vX6_200 hZ dX6_wickBy_7 (t_X3_item (by omega) (by omega) hW) (fun a7 M7 r7 h7 => ?_)
  obtain ⟨e7, h7⟩ := h7
  replace e7 := e7.symm
  subst e7
  replace h7 : a7 = M (51 + s.toNat) (i) := by omega
  subst h7
  refine f_aload_n hZ dX6_wickBy_10 rfl ?_
  refine gX6_41 hZ dX6_wickBy_11 ?_
  refine f_iload_n hZ dX6_wickBy_14 rfl ?_
  refine f_iload_n hZ dX6_wickBy_15 rfl ?_
  refine f_iconst hZ dX6_wickBy_16 ?_
  refine f_iadd hZ dX6_wickBy_17 ?_
  refine vX6_200 hZ dX6_wickBy_18 (t_X3_item (by omega) (by omega) hW) (fun a18 M18 r18 h18 => ?_)
  obtain ⟨e18, h18⟩ := h18
  replace e18 := e18.symm
  subst e18
  replace h18 : a18 = M (51 + s.toNat) (i + 1) := by omega
  subst h18
  refine f_aload_n hZ dX6_wickBy_21 rfl ?_
  refine gX6_41 hZ dX6_wickBy_22 ?_
  refine f_iload_n hZ dX6_wickBy_25 rfl ?_
  refine f_iload_n hZ dX6_wickBy_26 rfl ?_
  refine f_iconst hZ dX6_wickBy_27 ?_
  refine f_iadd hZ dX6_wickBy_28 ?_
  refine vX6_200 hZ dX6_wickBy_29 (t_X3_item (by omega) (by omega) hW) (fun a29 M29 r29 h29 => ?_)
  obtain ⟨e29, h29⟩ := h29
  replace e29 := e29.symm
  subst e29
  replace h29 : a29 = M (51 + s.toNat) (i + 2) := by omega
  subst h29
  refine vX6_244 hZ dX6_wickBy_32 (fC.mono (t_X6_wick (by omega) (by omega) (by omega) hn) (fun x M1 _ h => wkK_conv hn h)) (fun a32 M32 r32 h32 => ?_)
  exact f_retI hZ hR dX6_wickBy_35 rfl (by omega) (by exact h32)

abbrev wkRowK (M : fM) (s a k : Int) : Prop := a ≤ 40 ∧ reachP M s (a + k * 3) 3
set_option maxRecDepth 20000 in
set_option maxHeartbeats 4000000 in
theorem t_X6_wicks {X : fX} {M : fM} {d : Nat} {s t a n : Int} (hs : rg s) (ht : rg t) (ha : rg a) (hnn : rg n) (hW : WfS M) (hn : 0 ≤ M 1 5 ∧ M 1 5 ≤ 4) : fC X (d + 5) mX6_wicks [.ref (xa X 0), .int (iv s), .int (iv t), .int (iv a), .int (iv n)] M (QI fun r M' => (wkBad s t n ∧ r = -2 ∧ M' = M) ∨ (¬ wkBad s t n ∧ M 55 s = -1 ∧ r = -11 ∧ M' = M) ∨ (¬ wkBad s t n ∧ M 55 s ≠ -1 ∧ M 55 s ≠ t ∧ r = -13 ∧ M' = M) ∨ (¬ wkBad s t n ∧ (M 55 s ≠ -1 ∧ M 55 s = t) ∧ ∃ w, (0 ≤ w ∧ w < n) ∧ (∀ j, 0 ≤ j → j < w → wkRowK M s a j) ∧ ¬ wkRowK M s a w ∧ r = -12 ∧ M' = itMZ (wkKF (M (51 + s.toNat)) a) M w) ∨ (¬ wkBad s t n ∧ (M 55 s ≠ -1 ∧ M 55 s = t) ∧ (∀ j, 0 ≤ j → j < n → wkRowK M s a j) ∧ r = sumZ (fun k => wkC (itMZ (wkKF (M (51 + s.toNat)) a) M k 1 5) (M (51 + s.toNat) (a + k * 3)) (M (51 + s.toNat) (a + k * 3 + 1)) (M (51 + s.toNat) (a + k * 3 + 2))) n ∧ M' = itMZ (wkKF (M (51 + s.toNat)) a) M n)) := by
  refine fC.of (L := [_, _, _, _, _, _, _]) (by decide +kernel) rfl (Nat.le_of_ble_eq_true rfl) (fun Z hZ hR => ?_)
  have loop : ∀ (m : Nat) (w : Int), 0 ≤ w → w + m = n → (¬ wkBad s t n ∧ (M 55 s ≠ -1 ∧ M 55 s = t)) → (∀ j, 0 ≤ j → j < w → wkRowK M s a j) → fG X mX6_wicks Z 69 [.ref (xa X 0), .int (iv s), .int (iv t), .int (iv a), .int (iv n), .int (iv (sumZ (fun k => wkC (itMZ (wkKF (M (51 + s.toNat)) a) M k 1 5) (M (51 + s.toNat) (a + k * 3)) (M (51 + s.toNat) (a + k * 3 + 1)) (M (51 + s.toNat) (a + k * 3 + 2))) w)), .int (iv w)] [] (itMZ (wkKF (M (51 + s.toNat)) a) M w) := by
    intro m
    induction m with
    | zero =>
      intro w h0 hw hbd hrow
      have hP : wkQ M (itMZ (wkKF (M (51 + s.toNat)) a) M w) := itMZ_inv (wkQ M) ⟨hn, fun _ _ => rfl⟩ (fun k N h => wkK_Q h) w
      have hP5 := hP.2 55 (by omega)
      have hP6 := hP.2 56 (by omega)
      have hPr := hP.2 (51 + s.toNat) (by omega)
      have hWN := hW.of hP5 hP6
      have hOw : 0 ≤ sumZ (fun k => wkC (itMZ (wkKF (M (51 + s.toNat)) a) M k 1 5) (M (51 + s.toNat) (a + k * 3)) (M (51 + s.toNat) (a + k * 3 + 1)) (M (51 + s.toNat) (a + k * 3 + 2))) w ∧ sumZ (fun k => wkC (itMZ (wkKF (M (51 + s.toNat)) a) M k 1 5) (M (51 + s.toNat) (a + k * 3)) (M (51 + s.toNat) (a + k * 3 + 1)) (M (51 + s.toNat) (a + k * 3 + 2))) w ≤ 5 := by
        have := sumZ_bd (f := (fun k => wkC (itMZ (wkKF (M (51 + s.toNat)) a) M k 1 5) (M (51 + s.toNat) (a + k * 3)) (M (51 + s.toNat) (a + k * 3 + 1)) (M (51 + s.toNat) (a + k * 3 + 2)))) (a := 0) (b := 1) (by omega) (by omega) h0 (fun i _ _ => by have := wkC_01 (itMZ (wkKF (M (51 + s.toNat)) a) M i 1 5) (M (51 + s.toNat) (a + i * 3)) (M (51 + s.toNat) (a + i * 3 + 1)) (M (51 + s.toNat) (a + i * 3 + 2)); omega)
        omega
      refine f_iload hZ dX6_wicks_69 rfl ?_
      refine f_iload hZ dX6_wicks_71 rfl ?_
      refine f_ige (tgt := 126) hZ dX6_wicks_73 rfl (by omega) (by omega) (fun h73 => ?_) (fun h73 => ?_)
      · refine f_iload hZ dX6_wicks_126 rfl ?_
        exact f_retI hZ hR dX6_wicks_128 rfl (by omega) (by rw [show w = n by omega] at hP hOw ⊢; exact Or.inr (Or.inr (Or.inr (Or.inr ⟨hbd.1, hbd.2, fun j h1 h2 => hrow j h1 (by omega), rfl, rfl⟩))))
      · exfalso; omega
    | succ m ih =>
      intro w h0 hw hbd hrow
      have hP : wkQ M (itMZ (wkKF (M (51 + s.toNat)) a) M w) := itMZ_inv (wkQ M) ⟨hn, fun _ _ => rfl⟩ (fun k N h => wkK_Q h) w
      have hP5 := hP.2 55 (by omega)
      have hP6 := hP.2 56 (by omega)
      have hPr := hP.2 (51 + s.toNat) (by omega)
      have hWN := hW.of hP5 hP6
      have hOw : 0 ≤ sumZ (fun k => wkC (itMZ (wkKF (M (51 + s.toNat)) a) M k 1 5) (M (51 + s.toNat) (a + k * 3)) (M (51 + s.toNat) (a + k * 3 + 1)) (M (51 + s.toNat) (a + k * 3 + 2))) w ∧ sumZ (fun k => wkC (itMZ (wkKF (M (51 + s.toNat)) a) M k 1 5) (M (51 + s.toNat) (a + k * 3)) (M (51 + s.toNat) (a + k * 3 + 1)) (M (51 + s.toNat) (a + k * 3 + 2))) w ≤ 5 := by
        have := sumZ_bd (f := (fun k => wkC (itMZ (wkKF (M (51 + s.toNat)) a) M k 1 5) (M (51 + s.toNat) (a + k * 3)) (M (51 + s.toNat) (a + k * 3 + 1)) (M (51 + s.toNat) (a + k * 3 + 2)))) (a := 0) (b := 1) (by omega) (by omega) h0 (fun i _ _ => by have := wkC_01 (itMZ (wkKF (M (51 + s.toNat)) a) M i 1 5) (M (51 + s.toNat) (a + i * 3)) (M (51 + s.toNat) (a + i * 3 + 1)) (M (51 + s.toNat) (a + i * 3 + 2)); omega)
        omega
      refine f_iload hZ dX6_wicks_69 rfl ?_
      refine f_iload hZ dX6_wicks_71 rfl ?_
      refine f_ige (tgt := 126) hZ dX6_wicks_73 rfl (by omega) (by omega) (fun h73 => ?_) (fun h73 => ?_)
      · exfalso; omega
      · refine f_iload_n hZ dX6_wicks_76 rfl ?_
        refine f_bipush hZ dX6_wicks_77 ?_
        refine f_igt (tgt := 100) hZ dX6_wicks_79 rfl (by omega) (by omega) (fun h79 => ?_) (fun h79 => ?_)
        · refine f_bipush hZ dX6_wicks_100 ?_
          exact f_retI hZ hR dX6_wicks_102 rfl (by omega) (by exact Or.inr (Or.inr (Or.inr (Or.inl ⟨hbd.1, hbd.2, w, ⟨by omega, by omega⟩, hrow, by omega, rfl, rfl⟩))))
        · refine f_aload_n hZ dX6_wicks_82 rfl ?_
          refine gX6_41 hZ dX6_wicks_83 ?_
          refine f_iload_n hZ dX6_wicks_86 rfl ?_
          refine f_iload_n hZ dX6_wicks_87 rfl ?_
          refine f_iload hZ dX6_wicks_88 rfl ?_
          refine f_iconst hZ dX6_wicks_90 ?_
          refine f_imul hZ dX6_wicks_91 ?_
          refine f_iadd hZ dX6_wicks_92 ?_
          refine f_iconst hZ dX6_wicks_93 ?_
          refine vX6_222 hZ dX6_wicks_94 (t_X3_reaches (by omega) (by omega) (by omega) hWN) (fun a94 M94 r94 h94 => ?_)
          simp only [reachP, hP5, hP6] at h94
          obtain ⟨e94, h94⟩ := h94
          replace e94 := e94.symm
          subst e94
          refine f_ne (tgt := 103) hZ dX6_wicks_97 rfl (by omega) (fun h97 => ?_) (fun h97 => ?_)
          · refine f_aload_n hZ dX6_wicks_103 rfl ?_
            refine f_iload_n hZ dX6_wicks_104 rfl ?_
            refine f_iload_n hZ dX6_wicks_105 rfl ?_
            refine f_iload hZ dX6_wicks_106 rfl ?_
            refine f_iconst hZ dX6_wicks_108 ?_
            refine f_imul hZ dX6_wicks_109 ?_
            refine f_iadd hZ dX6_wicks_110 ?_
            refine vX6_241 hZ dX6_wicks_111 (t_X6_wickBy (by omega) (by simp only [reachP, hP5, hP6]; omega) hWN hP.1) (fun a111 M111 r111 h111 => ?_)
            rw [hPr] at h111
            obtain ⟨rfl, h111⟩ := h111
            refine f_lt (tgt := 120) hZ dX6_wicks_114 rfl (by omega) (fun h114 => ?_) (fun h114 => ?_)
            · refine f_iinc (L' := [_, _, _, _, _, _, _]) hZ dX6_wicks_120 rfl rfl ?_
              refine f_goto (tgt := 69) hZ dX6_wicks_123 rfl ?_
              have hh := ih (w + 1) (by omega) (by omega) hbd (fun j h1 h2 => by
                by_cases hj : j = w
                · subst hj; omega
                · exact hrow j h1 (by omega))
              rw [sumZ_succ _ h0, itMZ_succ _ _ h0] at hh
              have hW0 := wkC_01 ((itMZ (wkKF (M (51 + s.toNat)) a) M w) 1 5) (M (51 + s.toNat) (a + w * 3)) (M (51 + s.toNat) (a + w * 3 + 1)) (M (51 + s.toNat) (a + w * 3 + 2))
              first | (have hW1 : wkC ((itMZ (wkKF (M (51 + s.toNat)) a) M w) 1 5) (M (51 + s.toNat) (a + w * 3)) (M (51 + s.toNat) (a + w * 3 + 1)) (M (51 + s.toNat) (a + w * 3 + 2)) = 1 := by omega); (simp only [hW1] at hh; exact hh) | (have hW1 : wkC ((itMZ (wkKF (M (51 + s.toNat)) a) M w) 1 5) (M (51 + s.toNat) (a + w * 3)) (M (51 + s.toNat) (a + w * 3 + 1)) (M (51 + s.toNat) (a + w * 3 + 2)) = 0 := by omega); (simp only [hW1, Int.add_zero] at hh; exact hh)
            · refine f_iinc (L' := [_, _, _, _, _, _, _]) hZ dX6_wicks_117 rfl rfl ?_
              refine f_iinc (L' := [_, _, _, _, _, _, _]) hZ dX6_wicks_120 rfl rfl ?_
              refine f_goto (tgt := 69) hZ dX6_wicks_123 rfl ?_
              have hh := ih (w + 1) (by omega) (by omega) hbd (fun j h1 h2 => by
                by_cases hj : j = w
                · subst hj; omega
                · exact hrow j h1 (by omega))
              rw [sumZ_succ _ h0, itMZ_succ _ _ h0] at hh
              have hW0 := wkC_01 ((itMZ (wkKF (M (51 + s.toNat)) a) M w) 1 5) (M (51 + s.toNat) (a + w * 3)) (M (51 + s.toNat) (a + w * 3 + 1)) (M (51 + s.toNat) (a + w * 3 + 2))
              first | (have hW1 : wkC ((itMZ (wkKF (M (51 + s.toNat)) a) M w) 1 5) (M (51 + s.toNat) (a + w * 3)) (M (51 + s.toNat) (a + w * 3 + 1)) (M (51 + s.toNat) (a + w * 3 + 2)) = 1 := by omega); (simp only [hW1] at hh; exact hh) | (have hW1 : wkC ((itMZ (wkKF (M (51 + s.toNat)) a) M w) 1 5) (M (51 + s.toNat) (a + w * 3)) (M (51 + s.toNat) (a + w * 3 + 1)) (M (51 + s.toNat) (a + w * 3 + 2)) = 0 := by omega); (simp only [hW1, Int.add_zero] at hh; exact hh)
          · refine f_bipush hZ dX6_wicks_100 ?_
            exact f_retI hZ hR dX6_wicks_102 rfl (by omega) (by exact Or.inr (Or.inr (Or.inr (Or.inl ⟨hbd.1, hbd.2, w, ⟨by omega, by omega⟩, hrow, by omega, rfl, rfl⟩))))
  refine f_aload_n hZ dX6_wicks_0 rfl ?_
  refine gX6_41 hZ dX6_wicks_1 ?_
  refine f_iload_n hZ dX6_wicks_4 rfl ?_
  refine vX6_186 hZ dX6_wicks_5 (t_X3_has (by omega)) (fun a5 M5 r5 h5 => ?_)
  obtain ⟨e5, h5⟩ := h5
  replace e5 := e5.symm
  subst e5
  refine f_eq (tgt := 30) hZ dX6_wicks_8 rfl (by omega) (fun h8 => ?_) (fun h8 => ?_)
  · refine f_bipush hZ dX6_wicks_30 ?_
    exact f_retI hZ hR dX6_wicks_32 rfl (by omega) (by first | exact Or.inl ⟨by omega, rfl, rfl⟩ | exact Or.inr (Or.inl ⟨by omega, by omega, rfl, rfl⟩) | exact Or.inr (Or.inr (Or.inl ⟨by omega, by omega, by omega, rfl, rfl⟩)))
  · refine f_iload_n hZ dX6_wicks_11 rfl ?_
    refine f_iconst hZ dX6_wicks_12 ?_
    refine f_iconst hZ dX6_wicks_13 ?_
    refine sX6_56 hZ dX6_wicks_14 (t_X6_within (by omega) (by omega) (by omega)) (fun a14 M14 r14 h14 => ?_)
    obtain ⟨e14, h14⟩ := h14
    replace e14 := e14.symm
    subst e14
    refine f_eq (tgt := 30) hZ dX6_wicks_17 rfl (by omega) (fun h17 => ?_) (fun h17 => ?_)
    · refine f_bipush hZ dX6_wicks_30 ?_
      exact f_retI hZ hR dX6_wicks_32 rfl (by omega) (by first | exact Or.inl ⟨by omega, rfl, rfl⟩ | exact Or.inr (Or.inl ⟨by omega, by omega, rfl, rfl⟩) | exact Or.inr (Or.inr (Or.inl ⟨by omega, by omega, by omega, rfl, rfl⟩)))
    · refine f_iload hZ dX6_wicks_20 rfl ?_
      refine f_iconst hZ dX6_wicks_22 ?_
      refine f_iconst hZ dX6_wicks_23 ?_
      refine sX6_56 hZ dX6_wicks_24 (t_X6_within (by omega) (by omega) (by omega)) (fun a24 M24 r24 h24 => ?_)
      obtain ⟨e24, h24⟩ := h24
      replace e24 := e24.symm
      subst e24
      refine f_ne (tgt := 33) hZ dX6_wicks_27 rfl (by omega) (fun h27 => ?_) (fun h27 => ?_)
      · have hq := hW s (by omega) (by omega)
        refine f_aload_n hZ dX6_wicks_33 rfl ?_
        refine gX6_41 hZ dX6_wicks_34 ?_
        refine f_iload_n hZ dX6_wicks_37 rfl ?_
        refine vX6_187 hZ dX6_wicks_38 (t_X3_lacks (by omega)) (fun a38 M38 r38 h38 => ?_)
        obtain ⟨e38, h38⟩ := h38
        replace e38 := e38.symm
        subst e38
        refine f_eq (tgt := 47) hZ dX6_wicks_41 rfl (by omega) (fun h41 => ?_) (fun h41 => ?_)
        · refine f_aload_n hZ dX6_wicks_47 rfl ?_
          refine gX6_41 hZ dX6_wicks_48 ?_
          refine gX6_228 hZ dX6_wicks_51 ?_
          refine f_iload_n hZ dX6_wicks_54 rfl ?_
          refine f_iaload hZ dX6_wicks_55 (by first | rfl | exact hC.t1 | exact hC.t2 | exact hC.t3 | exact hC.t4 | exact hC.t5) (by first | rfl | exact hC.l1 | exact hC.l2 | exact hC.l3 | exact hC.l4 | exact hC.l5) (by omega) (by omega) (fun r55 => ?_)
          refine f_iload_n hZ dX6_wicks_56 rfl ?_
          refine f_ieq (tgt := 63) hZ dX6_wicks_57 rfl (by omega) (by omega) (fun h57 => ?_) (fun h57 => ?_)
          · refine f_iconst hZ dX6_wicks_63 ?_
            refine f_istore (L' := [_, _, _, _, _, _, _]) hZ dX6_wicks_64 rfl rfl ?_
            refine f_iconst hZ dX6_wicks_66 ?_
            refine f_istore (L' := [_, _, _, _, _, _, _]) hZ dX6_wicks_67 rfl rfl ?_
            exact loop n.toNat 0 (by omega) (by omega) ⟨by omega, by omega⟩ (fun j h1 h2 => by omega)
          · refine f_bipush hZ dX6_wicks_60 ?_
            exact f_retI hZ hR dX6_wicks_62 rfl (by omega) (by first | exact Or.inl ⟨by omega, rfl, rfl⟩ | exact Or.inr (Or.inl ⟨by omega, by omega, rfl, rfl⟩) | exact Or.inr (Or.inr (Or.inl ⟨by omega, by omega, by omega, rfl, rfl⟩)))
        · refine f_bipush hZ dX6_wicks_44 ?_
          exact f_retI hZ hR dX6_wicks_46 rfl (by omega) (by first | exact Or.inl ⟨by omega, rfl, rfl⟩ | exact Or.inr (Or.inl ⟨by omega, by omega, rfl, rfl⟩) | exact Or.inr (Or.inr (Or.inl ⟨by omega, by omega, by omega, rfl, rfl⟩)))
      · refine f_bipush hZ dX6_wicks_30 ?_
        exact f_retI hZ hR dX6_wicks_32 rfl (by omega) (by first | exact Or.inl ⟨by omega, rfl, rfl⟩ | exact Or.inr (Or.inl ⟨by omega, by omega, rfl, rfl⟩) | exact Or.inr (Or.inr (Or.inl ⟨by omega, by omega, by omega, rfl, rfl⟩)))

