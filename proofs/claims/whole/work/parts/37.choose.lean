set_option maxRecDepth 20000 in
set_option maxHeartbeats 4000000 in
theorem t_X4_choose_step {X : fX} {M : fM} {d : Nat} {dp g t e c f : Int} {v : pV} (hk : tOk M v dp g t e c f) (hU : ∀ (N : fM) (e c f : Int), tOk N v dp 4 t e c f → fC X d mX4_untilAnyIsOut [.ref (xa X 39), .int (iv dp), .int (iv t), .int (iv e), .int (iv c), .int (iv f)] N (QV fun K => uP N v dp t e c f K))
    (hC : ∀ (N : fM) (g' e c f : Int), g < g' → g' ≤ 4 → tOk N v dp g' t e c f → fC X d mX4_choose [.ref (xa X 39), .int (iv dp), .int (iv g'), .int (iv t), .int (iv e), .int (iv c), .int (iv f)] N (QV fun K => chP N v dp g' t e c f K)) : fC X (d + 1) mX4_choose [.ref (xa X 39), .int (iv dp), .int (iv g), .int (iv t), .int (iv e), .int (iv c), .int (iv f)] M (QV fun K => chP M v dp g t e c f K) := by
  have hk1 := hk.1
  have hk2 := hk.2.1
  have hk3 := hk.2.2.1
  have hk4 := hk.2.2.2.1
  have hdp := hk3.1
  have hg := hk4.1
  refine fC.of (L := [_, _, _, _, _, _, _, _, _, _, _, _, _]) (by decide +kernel) rfl (Nat.le_of_ble_eq_true rfl) (fun Z hZ hR => ?_)
  refine f_iload_n hZ dX4_choose_0 rfl ?_
  refine f_iconst hZ dX4_choose_1 ?_
  refine f_ilt (tgt := 6) hZ dX4_choose_2 rfl (by omega) (by omega) (fun h2 => ?_) (fun h2 => ?_)
  · refine f_aload_n hZ dX4_choose_6 rfl ?_
    refine f_iload_n hZ dX4_choose_7 rfl ?_
    refine f_iload_n hZ dX4_choose_8 rfl ?_
    refine vX4_103 hZ dX4_choose_9 (t_X4_withParts (by omega) (by omega)) (fun a9 M9 r9 h9 => ?_)
    obtain ⟨e9, h9⟩ := h9
    replace e9 := e9.symm
    subst e9
    refine f_istore (L' := [_, _, _, _, _, _, _, _, _, _, _, _, _]) hZ dX4_choose_12 rfl rfl ?_
    refine f_iload hZ dX4_choose_14 rfl ?_
    refine f_iconst hZ dX4_choose_16 ?_
    refine f_ilt (tgt := 33) hZ dX4_choose_17 rfl (by omega) (by omega) (fun h17 => ?_) (fun h17 => ?_)
    · have hw9 : (g ≤ a9 ∧ a9 < 4) ∧ 0 < M 43 (dp * 4 + a9) ∧ ∀ x, g ≤ x → x < a9 → ¬ 0 < M 43 (dp * 4 + x) := by
        rcases h9 with q | q
        · exfalso; omega
        · exact q
      have hqa := hk2.1.1 a9 (by omega) hw9.1.2
      have hus : 1 ≤ useZ M a9 ∧ useZ M a9 ≤ 2 := by unfold useZ; split <;> omega
      have fin : ∀ (u l cs : Int) (N : fM), u = unD M dp a9 → M 44 (dp * 4 + a9) ≤ l → l = useZ M a9 + 1 → LI M v dp t e c f a9 l N → fG X mX4_choose Z 75 [.ref (xa X 39), .int (iv dp), .int (iv g), .int (iv t), .int (iv e), .int (iv c), .int (iv f), .int (iv a9), .int (iv (dp * 4 + a9)), .int (iv u), .int (iv (M 44 (dp * 4 + a9))), .int (iv cs), .int (iv l)] [] N := by
        intro u l cs N hu hl hw hL
        have e46 : N 46 = M 46 := hL.k 46 (by decide)
        have huse : useZ N = useZ M := useZ_eq e46
        refine f_iload hZ dX4_choose_75 rfl ?_
        refine f_aload_n hZ dX4_choose_77 rfl ?_
        refine f_iload hZ dX4_choose_78 rfl ?_
        refine vX4_111 hZ dX4_choose_80 (t_X4_usefulEnds (by omega)) (fun a80 M80 r80 h80 => ?_)
        obtain ⟨e80, h80⟩ := h80
        replace e80 := e80.symm
        subst e80
        rw [huse] at h80
        subst h80
        refine f_igt (tgt := 156) hZ dX4_choose_83 rfl (by omega) (by omega) (fun h83 => ?_) (fun h83 => ?_)
        · refine f_aload_n hZ dX4_choose_156 rfl ?_
          refine gX4_24 hZ dX4_choose_157 ?_
          refine f_iload hZ dX4_choose_160 rfl ?_
          refine f_iload hZ dX4_choose_162 rfl ?_
          refine f_iastore hZ dX4_choose_164 (by first | rfl | exact hC.t1 | exact hC.t2 | exact hC.t3 | exact hC.t4 | exact hC.t5) (by first | rfl | exact hC.l1 | exact hC.l2 | exact hC.l3 | exact hC.l4 | exact hC.l5) (by omega) (by omega) (by omega) ?_
          exact f_retV hZ hR dX4_choose_165 rfl (by exact LI.done hk hw9.1 hw9.2.1 hw9.2.2 (by omega) hL)
        · exfalso; omega
      have loop : ∀ (m : Nat) (u l cs : Int) (N : fM), u = unD M dp a9 → M 44 (dp * 4 + a9) ≤ l → l + m = useZ M a9 + 1 → cs = c + lc (fun j => prX M v a9 j (M 43 (dp * 4 + a9)) t) (M 44 (dp * 4 + a9)) l → LI M v dp t e c f a9 l N → fG X mX4_choose Z 75 [.ref (xa X 39), .int (iv dp), .int (iv g), .int (iv t), .int (iv e), .int (iv c), .int (iv f), .int (iv a9), .int (iv (dp * 4 + a9)), .int (iv u), .int (iv (M 44 (dp * 4 + a9))), .int (iv cs), .int (iv l)] [] N := by
        intro m
        induction m with
        | zero =>
          intro u l cs N hu hl hw hcs hL
          exact fin u l cs N hu hl (by omega) hL
        | succ m ih =>
          intro u l cs N hu hl hw hcs hL
          have e46 : N 46 = M 46 := hL.k 46 (by decide)
          have huse : useZ N = useZ M := useZ_eq e46
          have hlc := lc_rg (f := fun j => prX M v a9 j (M 43 (dp * 4 + a9)) t) (fun j => prX_rg) hqa.2.1 hl (by omega)
          refine f_iload hZ dX4_choose_75 rfl ?_
          refine f_aload_n hZ dX4_choose_77 rfl ?_
          refine f_iload hZ dX4_choose_78 rfl ?_
          refine vX4_111 hZ dX4_choose_80 (t_X4_usefulEnds (by omega)) (fun a80 M80 r80 h80 => ?_)
          obtain ⟨e80, h80⟩ := h80
          replace e80 := e80.symm
          subst e80
          rw [huse] at h80
          subst h80
          refine f_igt (tgt := 156) hZ dX4_choose_83 rfl (by omega) (by omega) (fun h83 => ?_) (fun h83 => ?_)
          · exfalso; omega
          · refine f_aload_n hZ dX4_choose_86 rfl ?_
            refine gX4_24 hZ dX4_choose_87 ?_
            refine f_iload hZ dX4_choose_90 rfl ?_
            refine f_iload hZ dX4_choose_92 rfl ?_
            refine f_iastore hZ dX4_choose_94 (by first | rfl | exact hC.t1 | exact hC.t2 | exact hC.t3 | exact hC.t4 | exact hC.t5) (by first | rfl | exact hC.l1 | exact hC.l2 | exact hC.l3 | exact hC.l4 | exact hC.l5) (by omega) (by omega) (by omega) ?_
            refine f_aload_n hZ dX4_choose_95 rfl ?_
            refine f_iload_n hZ dX4_choose_96 rfl ?_
            refine f_iload hZ dX4_choose_97 rfl ?_
            refine f_iconst hZ dX4_choose_99 ?_
            refine f_iadd hZ dX4_choose_100 ?_
            refine f_iload_n hZ dX4_choose_101 rfl ?_
            refine f_iload hZ dX4_choose_102 rfl ?_
            refine f_iload hZ dX4_choose_104 rfl ?_
            refine f_iadd hZ dX4_choose_106 ?_
            refine f_iload hZ dX4_choose_107 rfl ?_
            refine f_isub hZ dX4_choose_109 ?_
            refine f_iload hZ dX4_choose_110 rfl ?_
            refine f_iload hZ dX4_choose_112 rfl ?_
            refine f_iload hZ dX4_choose_114 rfl ?_
            refine f_iload hZ dX4_choose_116 rfl ?_
            refine f_imul hZ dX4_choose_118 ?_
            refine f_iadd hZ dX4_choose_119 ?_
            refine vX4_99 hZ dX4_choose_120 (hC (up N 44 (dp * 4 + a9) l) (a9 + 1) (e + l - M 44 (dp * 4 + a9)) cs (f + l * u) (by omega) (by omega) (hk.sub hw9.1 hw9.2.1 hL hl (by omega) hu hcs)) (fun M120 h120 => ?_)
            have hL2 := LI.next hk hw9.1 hL hl hu hcs h120
            have hlu := hlc.2
            refine f_iload hZ dX4_choose_123 rfl ?_
            refine f_iload hZ dX4_choose_125 rfl ?_
            refine f_iconst hZ dX4_choose_127 ?_
            refine f_ige (tgt := 146) hZ dX4_choose_128 rfl (by omega) (by omega) (fun h128 => ?_) (fun h128 => ?_)
            · refine f_iconst hZ dX4_choose_146 ?_
              refine f_iadd hZ dX4_choose_147 ?_
              refine f_istore (L' := [_, _, _, _, _, _, _, _, _, _, _, _, _]) hZ dX4_choose_148 rfl rfl ?_
              refine f_iinc (L' := [_, _, _, _, _, _, _, _, _, _, _, _, _]) hZ dX4_choose_150 rfl rfl ?_
              refine f_goto (tgt := 75) hZ dX4_choose_153 rfl ?_
              first
                | exact ih u (l + 1) _ M120 hu (by omega) (by omega) (by have h1 := lc_succ (f := fun j => prX M v a9 j (M 43 (dp * 4 + a9)) t) hqa.2.1 hl (by omega); rw [h1, LI.price hk hw9.1 hw9.2.1 hL2 hl (by omega), hcs]; exact Int.add_assoc _ _ _) hL2
                | exact fin u (l + 1) _ M120 hu (by omega) (by omega) hL2
            · refine f_aload_n hZ dX4_choose_131 rfl ?_
              refine gX4_27 hZ dX4_choose_132 ?_
              refine f_iload hZ dX4_choose_135 rfl ?_
              refine f_iconst hZ dX4_choose_137 ?_
              refine f_imul hZ dX4_choose_138 ?_
              refine f_iload hZ dX4_choose_139 rfl ?_
              refine f_iadd hZ dX4_choose_141 ?_
              refine f_iaload hZ dX4_choose_142 (by first | rfl | exact hC.t1 | exact hC.t2 | exact hC.t3 | exact hC.t4 | exact hC.t5) (by first | rfl | exact hC.l1 | exact hC.l2 | exact hC.l3 | exact hC.l4 | exact hC.l5) (by omega) (by omega) (fun r142 => ?_)
              try simp only [up_app] at r142 ⊢
              refine f_goto (tgt := 147) hZ dX4_choose_143 rfl ?_
              refine f_iadd hZ dX4_choose_147 ?_
              refine f_istore (L' := [_, _, _, _, _, _, _, _, _, _, _, _, _]) hZ dX4_choose_148 rfl rfl ?_
              refine f_iinc (L' := [_, _, _, _, _, _, _, _, _, _, _, _, _]) hZ dX4_choose_150 rfl rfl ?_
              refine f_goto (tgt := 75) hZ dX4_choose_153 rfl ?_
              first
                | exact ih u (l + 1) _ M120 hu (by omega) (by omega) (by have h1 := lc_succ (f := fun j => prX M v a9 j (M 43 (dp * 4 + a9)) t) hqa.2.1 hl (by omega); rw [h1, LI.price hk hw9.1 hw9.2.1 hL2 hl (by omega), hcs]; exact Int.add_assoc _ _ _) hL2
                | exact fin u (l + 1) _ M120 hu (by omega) (by omega) hL2
      refine f_iload_n hZ dX4_choose_33 rfl ?_
      refine f_iconst hZ dX4_choose_34 ?_
      refine f_imul hZ dX4_choose_35 ?_
      refine f_iload hZ dX4_choose_36 rfl ?_
      refine f_iadd hZ dX4_choose_38 ?_
      refine f_istore (L' := [_, _, _, _, _, _, _, _, _, _, _, _, _]) hZ dX4_choose_39 rfl rfl ?_
      refine f_iload_n hZ dX4_choose_41 rfl ?_
      refine f_ne (tgt := 55) hZ dX4_choose_42 rfl (by omega) (fun h42 => ?_) (fun h42 => ?_)
      · refine f_iconst hZ dX4_choose_55 ?_
        refine f_istore (L' := [_, _, _, _, _, _, _, _, _, _, _, _, _]) hZ dX4_choose_56 rfl rfl ?_
        refine f_aload_n hZ dX4_choose_58 rfl ?_
        refine gX4_24 hZ dX4_choose_59 ?_
        refine f_iload hZ dX4_choose_62 rfl ?_
        refine f_iaload hZ dX4_choose_64 (by first | rfl | exact hC.t1 | exact hC.t2 | exact hC.t3 | exact hC.t4 | exact hC.t5) (by first | rfl | exact hC.l1 | exact hC.l2 | exact hC.l3 | exact hC.l4 | exact hC.l5) (by omega) (by omega) (fun r64 => ?_)
        refine f_istore (L' := [_, _, _, _, _, _, _, _, _, _, _, _, _]) hZ dX4_choose_65 rfl rfl ?_
        refine f_iload hZ dX4_choose_67 rfl ?_
        refine f_istore (L' := [_, _, _, _, _, _, _, _, _, _, _, _, _]) hZ dX4_choose_69 rfl rfl ?_
        refine f_iload hZ dX4_choose_71 rfl ?_
        refine f_istore (L' := [_, _, _, _, _, _, _, _, _, _, _, _, _]) hZ dX4_choose_73 rfl rfl ?_
        first
          | exact loop (useZ M a9 + 1 - M 44 (dp * 4 + a9)).toNat _ _ _ M (by unfold unD; rw [if_pos (by omega)]) (Int.le_refl _) (by omega) (by rw [lc_self, Int.add_zero]) LI.init
          | exact loop (useZ M a9 + 1 - M 44 (dp * 4 + a9)).toNat _ _ _ M (by unfold unD; rw [if_neg (by omega)]) (Int.le_refl _) (by omega) (by rw [lc_self, Int.add_zero]) LI.init
      · refine f_aload_n hZ dX4_choose_45 rfl ?_
        refine gX4_36 hZ dX4_choose_46 ?_
        refine f_iload hZ dX4_choose_49 rfl ?_
        refine f_iaload hZ dX4_choose_51 (by first | rfl | exact hC.t1 | exact hC.t2 | exact hC.t3 | exact hC.t4 | exact hC.t5) (by first | rfl | exact hC.l1 | exact hC.l2 | exact hC.l3 | exact hC.l4 | exact hC.l5) (by omega) (by omega) (fun r51 => ?_)
        refine f_goto (tgt := 56) hZ dX4_choose_52 rfl ?_
        refine f_istore (L' := [_, _, _, _, _, _, _, _, _, _, _, _, _]) hZ dX4_choose_56 rfl rfl ?_
        refine f_aload_n hZ dX4_choose_58 rfl ?_
        refine gX4_24 hZ dX4_choose_59 ?_
        refine f_iload hZ dX4_choose_62 rfl ?_
        refine f_iaload hZ dX4_choose_64 (by first | rfl | exact hC.t1 | exact hC.t2 | exact hC.t3 | exact hC.t4 | exact hC.t5) (by first | rfl | exact hC.l1 | exact hC.l2 | exact hC.l3 | exact hC.l4 | exact hC.l5) (by omega) (by omega) (fun r64 => ?_)
        refine f_istore (L' := [_, _, _, _, _, _, _, _, _, _, _, _, _]) hZ dX4_choose_65 rfl rfl ?_
        refine f_iload hZ dX4_choose_67 rfl ?_
        refine f_istore (L' := [_, _, _, _, _, _, _, _, _, _, _, _, _]) hZ dX4_choose_69 rfl rfl ?_
        refine f_iload hZ dX4_choose_71 rfl ?_
        refine f_istore (L' := [_, _, _, _, _, _, _, _, _, _, _, _, _]) hZ dX4_choose_73 rfl rfl ?_
        first
          | exact loop (useZ M a9 + 1 - M 44 (dp * 4 + a9)).toNat _ _ _ M (by unfold unD; rw [if_pos (by omega)]) (Int.le_refl _) (by omega) (by rw [lc_self, Int.add_zero]) LI.init
          | exact loop (useZ M a9 + 1 - M 44 (dp * 4 + a9)).toNat _ _ _ M (by unfold unD; rw [if_neg (by omega)]) (Int.le_refl _) (by omega) (by rw [lc_self, Int.add_zero]) LI.init
    · refine f_aload_n hZ dX4_choose_20 rfl ?_
      refine f_iload_n hZ dX4_choose_21 rfl ?_
      refine f_iload_n hZ dX4_choose_22 rfl ?_
      refine f_iload hZ dX4_choose_23 rfl ?_
      refine f_iload hZ dX4_choose_25 rfl ?_
      refine f_iload hZ dX4_choose_27 rfl ?_
      refine vX4_107 hZ dX4_choose_29 (hU M e c f hk.four) (fun M29 h29 => ?_)
      exact f_retV hZ hR dX4_choose_32 rfl (by exact h29.ch hk (by rcases h9 with q | q; exact q.2; exfalso; omega))
  · exfalso; omega

