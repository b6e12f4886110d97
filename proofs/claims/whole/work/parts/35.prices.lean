/-! prices -/
theorem bd_rg {m x : Int} (h : 0 ≤ m) : 0 ≤ bd m x ∧ bd m x ≤ m := by unfold bd; omega
theorem TXs_congr {M N : fM} {t s : Int} {v : pV} (ht : 0 ≤ t ∧ t < 6) (h : ∀ c, 22 ≤ c → c ≤ 34 → N c = M c) (hT : TXs M t s v) : TXs N t s v := by
  unfold TXs at *
  rw [h (29 + t.toNat) (by omega) (by omega), h (22 + t.toNat) (by omega) (by omega)]
  exact hT
theorem TXs_nm {M : fM} {t s : Int} {v : pV} (hT : TXs M t s v) {nm nm' : Int → Int} (h : ∀ i, 0 ≤ i → i < 6 → nm i = nm' i) : v nm = v nm' := by
  obtain ⟨h1, h3⟩ := hT
  exact Sg_nm h3 (by rw [slc_len]; omega) h
def prZ (M : fM) (v : pV) (w l p t : Int) : Int := bd 99 (v (nmf p (M 1 6) l (min 999 (M 6 w + M 4 w - p)) w t))
theorem prZ_rg {M : fM} {v : pV} {w l p t : Int} : 0 ≤ prZ M v w l p t ∧ prZ M v w l p t ≤ 99 := bd_rg (by omega)
/-- row dp of the prices, its first j places asked -/
abbrev apC (M : fM) (dp j i : Int) : Prop := (dp * 8 ≤ i ∧ i < dp * 8 + j) ∧ 0 < M 43 (i / 2) ∧ M 44 (i / 2) ≤ i % 2
def apI (M : fM) (v : pV) (dp t j : Int) (N : fM) : Prop := (∀ c, c ≠ 35 → c ≠ 36 → c ≠ 45 → N c = M c) ∧ ∀ i, N 45 i = if apC M dp j i then prZ M v (i / 2 - dp * 4) (i % 2) (M 43 (i / 2)) t else M 45 i
theorem apI_0 {M : fM} {v : pV} {dp t : Int} : apI M v dp t 0 M := ⟨fun c _ _ _ => rfl, fun i => by rw [if_neg (fun q => by have := q.1; omega)]⟩
theorem apI_skip {M N : fM} {v : pV} {dp t j j' : Int} (h : apI M v dp t j N) (hj : j ≤ j') (hs : ∀ i, dp * 8 + j ≤ i → i < dp * 8 + j' → ¬ (0 < M 43 (i / 2) ∧ M 44 (i / 2) ≤ i % 2)) : apI M v dp t j' N := ⟨h.1, fun i => by
  rw [h.2 i]
  by_cases h1 : apC M dp j i
  · rw [if_pos h1, if_pos ⟨by have := h1.1; omega, h1.2⟩]
  · rw [if_neg h1, if_neg (fun q => h1 ⟨⟨q.1.1, Classical.byContradiction fun z => hs i (by omega) (by have := q.1; omega) q.2⟩, q.2⟩)]⟩
theorem apI_step {M N N' : fM} {v : pV} {dp t j i0 r : Int} (h : apI M v dp t j N) (h1 : ∀ c, c ≠ 35 → c ≠ 36 → c ≠ 45 → N' c = N c) (h2 : N' 45 = updI (N 45) i0 r) (hi : i0 = dp * 8 + j) (hc : 0 < M 43 (i0 / 2) ∧ M 44 (i0 / 2) ≤ i0 % 2) (hj : 0 ≤ j) (hr : r = prZ M v (i0 / 2 - dp * 4) (i0 % 2) (M 43 (i0 / 2)) t) : apI M v dp t (j + 1) N' := ⟨fun c a b e => by rw [h1 c a b e, h.1 c a b e], fun i => by
  rw [h2]
  unfold updI
  by_cases e : i = i0
  · rw [if_pos e, e, if_pos ⟨by omega, hc⟩, hr]
  · rw [if_neg e, h.2 i]
    by_cases q : apC M dp j i
    · rw [if_pos q, if_pos ⟨by have := q.1; omega, q.2⟩]
    · rw [if_neg q, if_neg (fun z => q ⟨by have := z.1; omega, z.2⟩)]⟩
set_option maxRecDepth 20000 in
set_option maxHeartbeats 4000000 in
theorem t_X4_askPrices {X : fX} {M : fM} {d : Nat} {dp t : Int} {v : pV} (hdp : 0 ≤ dp ∧ dp ≤ 4) (ht : rg t) (hW : WfK M) (hT : tR M dp) (h6 : 1 ≤ M 19 7 ∧ M 19 7 ≤ 6) (hru : 0 ≤ M 1 8 ∧ M 1 8 < M 19 7) (hX : TXs M (M 1 8) 0 v) : fC X (d + 2) mX4_askPrices [.ref (xa X 39), .int (iv dp), .int (iv t)] M (QV fun M' => (M 39 12 = 0 ∧ M' = M) ∨ (M 39 12 ≠ 0 ∧ apI M v dp t (2 * M 1 5) M')) := by
  obtain ⟨hn, hdm, hmo, hA⟩ := hW
  replace hA : WfA (M 1 5) (M 2) (M 3) (M 4) (M 5) (M 6) := hA
  replace hn : 0 ≤ M 1 5 ∧ M 1 5 ≤ 4 := hn
  replace hdm : 0 ≤ M 1 6 ∧ M 1 6 ≤ 9 := hdm
  refine fC.of (L := [_, _, _, _, _, _, _]) (by decide +kernel) rfl (Nat.le_of_ble_eq_true rfl) (fun Z hZ hR => ?_)
  have loop : M 39 12 ≠ 0 → ∀ (m : Nat) (w : Int) (N : fM), 0 ≤ w → w + m = M 1 5 → apI M v dp t (2 * w) N → fG X mX4_askPrices Z 10 [.ref (xa X 39), .int (iv dp), .int (iv t), .int (iv w), .null, .null, .null] [] N := by
    intro hpr m
    induction m with
    | zero =>
      intro w N h0 hw hN
      have hN1 : N 1 = M 1 := hN.1 1 (by decide) (by decide) (by decide)
      have hN4 : N 4 = M 4 := hN.1 4 (by decide) (by decide) (by decide)
      have hN6 : N 6 = M 6 := hN.1 6 (by decide) (by decide) (by decide)
      have hN43 : N 43 = M 43 := hN.1 43 (by decide) (by decide) (by decide)
      have hN44 : N 44 = M 44 := hN.1 44 (by decide) (by decide) (by decide)
      have hN19 : N 19 = M 19 := hN.1 19 (by decide) (by decide) (by decide)
      refine f_iload_n hZ dX4_askPrices_10 rfl ?_
      refine f_aload_n hZ dX4_askPrices_11 rfl ?_
      refine gX4_47 hZ dX4_askPrices_12 ?_
      refine gX4_91_1 hZ dX4_askPrices_15 (fun r15 => ?_)
      try simp only [hN1, hN4, hN6, hN43, hN44, hN19, nameM_ne (show (1 : Nat) ≠ 35 by decide), nameM_ne (show (19 : Nat) ≠ 35 by decide)] at r15 ⊢
      refine f_ige (tgt := 161) hZ dX4_askPrices_18 rfl (by first | omega | (simp only [hN1, hN4, hN6, hN43, hN44, hN19, nameM_ne (show (1 : Nat) ≠ 35 by decide), nameM_ne (show (19 : Nat) ≠ 35 by decide)]; omega)) (by first | omega | (simp only [hN1, hN4, hN6, hN43, hN44, hN19, nameM_ne (show (1 : Nat) ≠ 35 by decide), nameM_ne (show (19 : Nat) ≠ 35 by decide)]; omega)) (fun h18 => ?_) (fun h18 => ?_)
      · exact f_retV hZ hR dX4_askPrices_161 rfl (by rw [show w = M 1 5 by omega] at hN; exact Or.inr ⟨hpr, hN⟩)
      · exfalso; omega
    | succ m ih =>
      intro w N h0 hw hN
      have hq := hT.1 w h0 (by omega)
      have inner : ∀ (m2 : Nat) (l : Int) (N : fM), 0 ≤ l → l + m2 = 2 → M 44 (dp * 4 + w) ≤ l → apI M v dp t (2 * w + l) N → fG X mX4_askPrices Z 42 [.ref (xa X 39), .int (iv dp), .int (iv t), .int (iv w), .int (iv (dp * 4 + w)), .int (iv l), .null] [] N := by
        intro m2
        induction m2 with
        | zero =>
          intro l N l0 l2 hll hN
          have hN1 : N 1 = M 1 := hN.1 1 (by decide) (by decide) (by decide)
          have hN4 : N 4 = M 4 := hN.1 4 (by decide) (by decide) (by decide)
          have hN6 : N 6 = M 6 := hN.1 6 (by decide) (by decide) (by decide)
          have hN43 : N 43 = M 43 := hN.1 43 (by decide) (by decide) (by decide)
          have hN44 : N 44 = M 44 := hN.1 44 (by decide) (by decide) (by decide)
          have hN19 : N 19 = M 19 := hN.1 19 (by decide) (by decide) (by decide)
          refine f_iload hZ dX4_askPrices_42 rfl ?_
          refine f_iconst hZ dX4_askPrices_44 ?_
          refine f_ige (tgt := 155) hZ dX4_askPrices_45 rfl (by first | omega | (simp only [hN1, hN4, hN6, hN43, hN44, hN19, nameM_ne (show (1 : Nat) ≠ 35 by decide), nameM_ne (show (19 : Nat) ≠ 35 by decide)]; omega)) (by first | omega | (simp only [hN1, hN4, hN6, hN43, hN44, hN19, nameM_ne (show (1 : Nat) ≠ 35 by decide), nameM_ne (show (19 : Nat) ≠ 35 by decide)]; omega)) (fun h45 => ?_) (fun h45 => ?_)
          · refine f_iinc (L' := [_, _, _, _, _, _, _]) hZ dX4_askPrices_155 rfl rfl ?_
            refine f_goto (tgt := 10) hZ dX4_askPrices_158 rfl ?_
            refine f_forget (L' := [_, _, _, _, .null, .null, .null]) ⟨Or.inl rfl, Or.inl rfl, Or.inl rfl, Or.inl rfl, Or.inr rfl, Or.inr rfl, Or.inr rfl, trivial⟩ ?_
            exact ih (w + 1) N (by omega) (by omega) (by rw [show 2 * (w + 1) = 2 * w + l by omega]; exact hN)
          · exfalso; omega
        | succ m2 ih2 =>
          intro l N l0 l2 hll hN
          have hN1 : N 1 = M 1 := hN.1 1 (by decide) (by decide) (by decide)
          have hN4 : N 4 = M 4 := hN.1 4 (by decide) (by decide) (by decide)
          have hN6 : N 6 = M 6 := hN.1 6 (by decide) (by decide) (by decide)
          have hN43 : N 43 = M 43 := hN.1 43 (by decide) (by decide) (by decide)
          have hN44 : N 44 = M 44 := hN.1 44 (by decide) (by decide) (by decide)
          have hN19 : N 19 = M 19 := hN.1 19 (by decide) (by decide) (by decide)
          refine f_iload hZ dX4_askPrices_42 rfl ?_
          refine f_iconst hZ dX4_askPrices_44 ?_
          refine f_ige (tgt := 155) hZ dX4_askPrices_45 rfl (by first | omega | (simp only [hN1, hN4, hN6, hN43, hN44, hN19, nameM_ne (show (1 : Nat) ≠ 35 by decide), nameM_ne (show (19 : Nat) ≠ 35 by decide)]; omega)) (by first | omega | (simp only [hN1, hN4, hN6, hN43, hN44, hN19, nameM_ne (show (1 : Nat) ≠ 35 by decide), nameM_ne (show (19 : Nat) ≠ 35 by decide)]; omega)) (fun h45 => ?_) (fun h45 => ?_)
          · exfalso; omega
          · have hqa := hA w h0 (by omega)
            refine f_aload_n hZ dX4_askPrices_48 rfl ?_
            refine gX4_21 hZ dX4_askPrices_49 ?_
            refine f_iload hZ dX4_askPrices_52 rfl ?_
            refine f_iaload hZ dX4_askPrices_54 (by first | rfl | exact hC.t1 | exact hC.t2 | exact hC.t3 | exact hC.t4 | exact hC.t5) (by first | rfl | exact hC.l1 | exact hC.l2 | exact hC.l3 | exact hC.l4 | exact hC.l5) (by first | omega | (simp only [hN1, hN4, hN6, hN43, hN44, hN19, nameM_ne (show (1 : Nat) ≠ 35 by decide), nameM_ne (show (19 : Nat) ≠ 35 by decide)]; omega)) (by first | omega | (simp only [hN1, hN4, hN6, hN43, hN44, hN19, nameM_ne (show (1 : Nat) ≠ 35 by decide), nameM_ne (show (19 : Nat) ≠ 35 by decide)]; omega)) (fun r54 => ?_)
            try simp only [hN1, hN4, hN6, hN43, hN44, hN19, nameM_ne (show (1 : Nat) ≠ 35 by decide), nameM_ne (show (19 : Nat) ≠ 35 by decide)] at r54 ⊢
            refine f_le (tgt := 155) hZ dX4_askPrices_55 rfl (by first | omega | (simp only [hN1, hN4, hN6, hN43, hN44, hN19, nameM_ne (show (1 : Nat) ≠ 35 by decide), nameM_ne (show (19 : Nat) ≠ 35 by decide)]; omega)) (fun h55 => ?_) (fun h55 => ?_)
            · refine f_iinc (L' := [_, _, _, _, _, _, _]) hZ dX4_askPrices_155 rfl rfl ?_
              refine f_goto (tgt := 10) hZ dX4_askPrices_158 rfl ?_
              refine f_forget (L' := [_, _, _, _, .null, .null, .null]) ⟨Or.inl rfl, Or.inl rfl, Or.inl rfl, Or.inl rfl, Or.inr rfl, Or.inr rfl, Or.inr rfl, trivial⟩ ?_
              exact ih (w + 1) N (by omega) (by omega) (apI_skip hN (by omega) (fun i i1 i2 q => by rw [show i / 2 = dp * 4 + w by omega] at q; omega))
            · refine f_sipush hZ dX4_askPrices_58 ?_
              refine f_aload_n hZ dX4_askPrices_61 rfl ?_
              refine gX4_47 hZ dX4_askPrices_62 ?_
              refine gX4_130_1 hZ dX4_askPrices_65 ?_
              refine f_iload_n hZ dX4_askPrices_68 rfl ?_
              refine f_iaload hZ dX4_askPrices_69 (by first | rfl | exact hC.t1 | exact hC.t2 | exact hC.t3 | exact hC.t4 | exact hC.t5) (by first | rfl | exact hC.l1 | exact hC.l2 | exact hC.l3 | exact hC.l4 | exact hC.l5) (by first | omega | (simp only [hN1, hN4, hN6, hN43, hN44, hN19, nameM_ne (show (1 : Nat) ≠ 35 by decide), nameM_ne (show (19 : Nat) ≠ 35 by decide)]; omega)) (by first | omega | (simp only [hN1, hN4, hN6, hN43, hN44, hN19, nameM_ne (show (1 : Nat) ≠ 35 by decide), nameM_ne (show (19 : Nat) ≠ 35 by decide)]; omega)) (fun r69 => ?_)
              try simp only [hN1, hN4, hN6, hN43, hN44, hN19, nameM_ne (show (1 : Nat) ≠ 35 by decide), nameM_ne (show (19 : Nat) ≠ 35 by decide)] at r69 ⊢
              refine f_aload_n hZ dX4_askPrices_70 rfl ?_
              refine gX4_47 hZ dX4_askPrices_71 ?_
              refine gX4_94_1 hZ dX4_askPrices_74 ?_
              refine f_iload_n hZ dX4_askPrices_77 rfl ?_
              refine f_iaload hZ dX4_askPrices_78 (by first | rfl | exact hC.t1 | exact hC.t2 | exact hC.t3 | exact hC.t4 | exact hC.t5) (by first | rfl | exact hC.l1 | exact hC.l2 | exact hC.l3 | exact hC.l4 | exact hC.l5) (by first | omega | (simp only [hN1, hN4, hN6, hN43, hN44, hN19, nameM_ne (show (1 : Nat) ≠ 35 by decide), nameM_ne (show (19 : Nat) ≠ 35 by decide)]; omega)) (by first | omega | (simp only [hN1, hN4, hN6, hN43, hN44, hN19, nameM_ne (show (1 : Nat) ≠ 35 by decide), nameM_ne (show (19 : Nat) ≠ 35 by decide)]; omega)) (fun r78 => ?_)
              try simp only [hN1, hN4, hN6, hN43, hN44, hN19, nameM_ne (show (1 : Nat) ≠ 35 by decide), nameM_ne (show (19 : Nat) ≠ 35 by decide)] at r78 ⊢
              refine f_iadd hZ dX4_askPrices_79 ?_
              refine f_aload_n hZ dX4_askPrices_80 rfl ?_
              refine gX4_21 hZ dX4_askPrices_81 ?_
              refine f_iload hZ dX4_askPrices_84 rfl ?_
              refine f_iaload hZ dX4_askPrices_86 (by first | rfl | exact hC.t1 | exact hC.t2 | exact hC.t3 | exact hC.t4 | exact hC.t5) (by first | rfl | exact hC.l1 | exact hC.l2 | exact hC.l3 | exact hC.l4 | exact hC.l5) (by first | omega | (simp only [hN1, hN4, hN6, hN43, hN44, hN19, nameM_ne (show (1 : Nat) ≠ 35 by decide), nameM_ne (show (19 : Nat) ≠ 35 by decide)]; omega)) (by first | omega | (simp only [hN1, hN4, hN6, hN43, hN44, hN19, nameM_ne (show (1 : Nat) ≠ 35 by decide), nameM_ne (show (19 : Nat) ≠ 35 by decide)]; omega)) (fun r86 => ?_)
              try simp only [hN1, hN4, hN6, hN43, hN44, hN19, nameM_ne (show (1 : Nat) ≠ 35 by decide), nameM_ne (show (19 : Nat) ≠ 35 by decide)] at r86 ⊢
              refine f_isub hZ dX4_askPrices_87 ?_
              refine f_min hZ dX4_askPrices_88 wk_X4_118 (by first | omega | (simp only [hN1, hN4, hN6, hN43, hN44, hN19, nameM_ne (show (1 : Nat) ≠ 35 by decide), nameM_ne (show (19 : Nat) ≠ 35 by decide)]; omega)) (by first | omega | (simp only [hN1, hN4, hN6, hN43, hN44, hN19, nameM_ne (show (1 : Nat) ≠ 35 by decide), nameM_ne (show (19 : Nat) ≠ 35 by decide)]; omega)) (Nat.le_of_ble_eq_true rfl) ?_
              refine f_istore (L' := [_, _, _, _, _, _, _]) hZ dX4_askPrices_91 rfl rfl ?_
              refine f_aload_n hZ dX4_askPrices_93 rfl ?_
              refine gX4_51 hZ dX4_askPrices_94 ?_
              refine f_aload_n hZ dX4_askPrices_97 rfl ?_
              refine gX4_21 hZ dX4_askPrices_98 ?_
              refine f_iload hZ dX4_askPrices_101 rfl ?_
              refine f_iaload hZ dX4_askPrices_103 (by first | rfl | exact hC.t1 | exact hC.t2 | exact hC.t3 | exact hC.t4 | exact hC.t5) (by first | rfl | exact hC.l1 | exact hC.l2 | exact hC.l3 | exact hC.l4 | exact hC.l5) (by first | omega | (simp only [hN1, hN4, hN6, hN43, hN44, hN19, nameM_ne (show (1 : Nat) ≠ 35 by decide), nameM_ne (show (19 : Nat) ≠ 35 by decide)]; omega)) (by first | omega | (simp only [hN1, hN4, hN6, hN43, hN44, hN19, nameM_ne (show (1 : Nat) ≠ 35 by decide), nameM_ne (show (19 : Nat) ≠ 35 by decide)]; omega)) (fun r103 => ?_)
              try simp only [hN1, hN4, hN6, hN43, hN44, hN19, nameM_ne (show (1 : Nat) ≠ 35 by decide), nameM_ne (show (19 : Nat) ≠ 35 by decide)] at r103 ⊢
              refine f_aload_n hZ dX4_askPrices_104 rfl ?_
              refine gX4_47 hZ dX4_askPrices_105 ?_
              refine gX4_60_1 hZ dX4_askPrices_108 (fun r108 => ?_)
              try simp only [hN1, hN4, hN6, hN43, hN44, hN19, nameM_ne (show (1 : Nat) ≠ 35 by decide), nameM_ne (show (19 : Nat) ≠ 35 by decide)] at r108 ⊢
              refine f_iload hZ dX4_askPrices_111 rfl ?_
              refine f_iload hZ dX4_askPrices_113 rfl ?_
              refine f_iload_n hZ dX4_askPrices_115 rfl ?_
              refine f_iload_n hZ dX4_askPrices_116 rfl ?_
              refine vX4_133 hZ dX4_askPrices_117 (t_X5_name (by first | omega | (simp only [hN1, hN4, hN6, hN43, hN44, hN19, nameM_ne (show (1 : Nat) ≠ 35 by decide), nameM_ne (show (19 : Nat) ≠ 35 by decide)]; omega)) (by first | omega | (simp only [hN1, hN4, hN6, hN43, hN44, hN19, nameM_ne (show (1 : Nat) ≠ 35 by decide), nameM_ne (show (19 : Nat) ≠ 35 by decide)]; omega)) (by first | omega | (simp only [hN1, hN4, hN6, hN43, hN44, hN19, nameM_ne (show (1 : Nat) ≠ 35 by decide), nameM_ne (show (19 : Nat) ≠ 35 by decide)]; omega)) (by first | omega | (simp only [hN1, hN4, hN6, hN43, hN44, hN19, nameM_ne (show (1 : Nat) ≠ 35 by decide), nameM_ne (show (19 : Nat) ≠ 35 by decide)]; omega)) (by first | omega | (simp only [hN1, hN4, hN6, hN43, hN44, hN19, nameM_ne (show (1 : Nat) ≠ 35 by decide), nameM_ne (show (19 : Nat) ≠ 35 by decide)]; omega)) (by first | omega | (simp only [hN1, hN4, hN6, hN43, hN44, hN19, nameM_ne (show (1 : Nat) ≠ 35 by decide), nameM_ne (show (19 : Nat) ≠ 35 by decide)]; omega))) (fun M117 h117 => ?_)
              subst h117
              refine f_aload_n hZ dX4_askPrices_120 rfl ?_
              refine gX4_27 hZ dX4_askPrices_121 ?_
              refine f_iload hZ dX4_askPrices_124 rfl ?_
              refine f_iconst hZ dX4_askPrices_126 ?_
              refine f_imul hZ dX4_askPrices_127 ?_
              refine f_iload hZ dX4_askPrices_128 rfl ?_
              refine f_iadd hZ dX4_askPrices_130 ?_
              refine f_aload_n hZ dX4_askPrices_131 rfl ?_
              refine gX4_51 hZ dX4_askPrices_132 ?_
              refine f_aload_n hZ dX4_askPrices_135 rfl ?_
              refine gX4_47 hZ dX4_askPrices_136 ?_
              refine gX4_138_1 hZ dX4_askPrices_139 (fun r139 => ?_)
              try simp only [hN1, hN4, hN6, hN43, hN44, hN19, nameM_ne (show (1 : Nat) ≠ 35 by decide), nameM_ne (show (19 : Nat) ≠ 35 by decide)] at r139 ⊢
              refine f_iconst hZ dX4_askPrices_142 ?_
              refine f_bipush hZ dX4_askPrices_143 ?_
              refine vX4_141 hZ dX4_askPrices_145 (t_X5_bounded (v := v) (by first | omega | (simp only [hN1, hN4, hN6, hN43, hN44, hN19, nameM_ne (show (1 : Nat) ≠ 35 by decide), nameM_ne (show (19 : Nat) ≠ 35 by decide)]; omega)) (by first | omega | (simp only [hN1, hN4, hN6, hN43, hN44, hN19, nameM_ne (show (1 : Nat) ≠ 35 by decide), nameM_ne (show (19 : Nat) ≠ 35 by decide)]; omega)) (by omega) (by omega) (TXs_congr (by omega) (fun c c1 c2 => by rw [nameM_ne (by omega), hN.1 c (by omega) (by omega) (by omega)]) hX)) (fun a145 M145 r145 h145 => ?_)
              obtain ⟨h145, e145⟩ := h145
              have hbd : 0 ≤ a145 ∧ a145 ≤ 99 := by rw [e145]; exact bd_rg (by omega)
              refine f_iastore hZ dX4_askPrices_148 (by first | rfl | exact hC.t1 | exact hC.t2 | exact hC.t3 | exact hC.t4 | exact hC.t5) (by first | rfl | exact hC.l1 | exact hC.l2 | exact hC.l3 | exact hC.l4 | exact hC.l5) (by first | omega | (simp only [hN1, hN4, hN6, hN43, hN44, hN19, nameM_ne (show (1 : Nat) ≠ 35 by decide), nameM_ne (show (19 : Nat) ≠ 35 by decide)]; omega)) (by first | omega | (simp only [hN1, hN4, hN6, hN43, hN44, hN19, nameM_ne (show (1 : Nat) ≠ 35 by decide), nameM_ne (show (19 : Nat) ≠ 35 by decide)]; omega)) (by first | omega | (simp only [hN1, hN4, hN6, hN43, hN44, hN19, nameM_ne (show (1 : Nat) ≠ 35 by decide), nameM_ne (show (19 : Nat) ≠ 35 by decide)]; omega)) ?_
              refine f_iinc (L' := [_, _, _, _, _, _, _]) hZ dX4_askPrices_149 rfl rfl ?_
              refine f_goto (tgt := 42) hZ dX4_askPrices_152 rfl ?_
              refine f_forget (L' := [_, _, _, _, _, _, .null]) ⟨Or.inl rfl, Or.inl rfl, Or.inl rfl, Or.inl rfl, Or.inl rfl, Or.inl rfl, Or.inr rfl, trivial⟩ ?_
              refine ih2 (l + 1) _ (by omega) (by omega) (by omega) ?_
              rw [show 2 * w + (l + 1) = 2 * w + l + 1 by omega]
              refine apI_step (i0 := (dp * 4 + w) * 2 + l) (r := a145) hN (fun c c1 c2 c3 => ?_) ?_ (by omega) (by rw [show ((dp * 4 + w) * 2 + l) / 2 = dp * 4 + w by omega]; omega) (by omega) ?_
              · rw [up_ne c3, h145 c c2, nameM_ne c1]
              · rw [up_ro, ro_eq, h145 45 (by decide), nameM_ne (by decide)]
              · rw [e145, show ((dp * 4 + w) * 2 + l) / 2 = dp * 4 + w by omega, show ((dp * 4 + w) * 2 + l) % 2 = l by omega, show dp * 4 + w - dp * 4 = w by omega]; unfold prZ; exact congrArg (bd 99) (TXs_nm hX (fun i i0 i1 => nameM_35 i0 i1))
      have hN1 : N 1 = M 1 := hN.1 1 (by decide) (by decide) (by decide)
      have hN4 : N 4 = M 4 := hN.1 4 (by decide) (by decide) (by decide)
      have hN6 : N 6 = M 6 := hN.1 6 (by decide) (by decide) (by decide)
      have hN43 : N 43 = M 43 := hN.1 43 (by decide) (by decide) (by decide)
      have hN44 : N 44 = M 44 := hN.1 44 (by decide) (by decide) (by decide)
      have hN19 : N 19 = M 19 := hN.1 19 (by decide) (by decide) (by decide)
      refine f_iload_n hZ dX4_askPrices_10 rfl ?_
      refine f_aload_n hZ dX4_askPrices_11 rfl ?_
      refine gX4_47 hZ dX4_askPrices_12 ?_
      refine gX4_91_1 hZ dX4_askPrices_15 (fun r15 => ?_)
      try simp only [hN1, hN4, hN6, hN43, hN44, hN19, nameM_ne (show (1 : Nat) ≠ 35 by decide), nameM_ne (show (19 : Nat) ≠ 35 by decide)] at r15 ⊢
      refine f_ige (tgt := 161) hZ dX4_askPrices_18 rfl (by first | omega | (simp only [hN1, hN4, hN6, hN43, hN44, hN19, nameM_ne (show (1 : Nat) ≠ 35 by decide), nameM_ne (show (19 : Nat) ≠ 35 by decide)]; omega)) (by first | omega | (simp only [hN1, hN4, hN6, hN43, hN44, hN19, nameM_ne (show (1 : Nat) ≠ 35 by decide), nameM_ne (show (19 : Nat) ≠ 35 by decide)]; omega)) (fun h18 => ?_) (fun h18 => ?_)
      · exfalso; omega
      · refine f_iload_n hZ dX4_askPrices_21 rfl ?_
        refine f_iconst hZ dX4_askPrices_22 ?_
        refine f_ige (tgt := 161) hZ dX4_askPrices_23 rfl (by first | omega | (simp only [hN1, hN4, hN6, hN43, hN44, hN19, nameM_ne (show (1 : Nat) ≠ 35 by decide), nameM_ne (show (19 : Nat) ≠ 35 by decide)]; omega)) (by first | omega | (simp only [hN1, hN4, hN6, hN43, hN44, hN19, nameM_ne (show (1 : Nat) ≠ 35 by decide), nameM_ne (show (19 : Nat) ≠ 35 by decide)]; omega)) (fun h23 => ?_) (fun h23 => ?_)
        · exfalso; omega
        · refine f_iload_n hZ dX4_askPrices_26 rfl ?_
          refine f_iconst hZ dX4_askPrices_27 ?_
          refine f_imul hZ dX4_askPrices_28 ?_
          refine f_iload_n hZ dX4_askPrices_29 rfl ?_
          refine f_iadd hZ dX4_askPrices_30 ?_
          refine f_istore (L' := [_, _, _, _, _, _, _]) hZ dX4_askPrices_31 rfl rfl ?_
          refine f_aload_n hZ dX4_askPrices_33 rfl ?_
          refine gX4_24 hZ dX4_askPrices_34 ?_
          refine f_iload hZ dX4_askPrices_37 rfl ?_
          refine f_iaload hZ dX4_askPrices_39 (by first | rfl | exact hC.t1 | exact hC.t2 | exact hC.t3 | exact hC.t4 | exact hC.t5) (by first | rfl | exact hC.l1 | exact hC.l2 | exact hC.l3 | exact hC.l4 | exact hC.l5) (by first | omega | (simp only [hN1, hN4, hN6, hN43, hN44, hN19, nameM_ne (show (1 : Nat) ≠ 35 by decide), nameM_ne (show (19 : Nat) ≠ 35 by decide)]; omega)) (by first | omega | (simp only [hN1, hN4, hN6, hN43, hN44, hN19, nameM_ne (show (1 : Nat) ≠ 35 by decide), nameM_ne (show (19 : Nat) ≠ 35 by decide)]; omega)) (fun r39 => ?_)
          try simp only [hN1, hN4, hN6, hN43, hN44, hN19, nameM_ne (show (1 : Nat) ≠ 35 by decide), nameM_ne (show (19 : Nat) ≠ 35 by decide)] at r39 ⊢
          refine f_istore (L' := [_, _, _, _, _, _, _]) hZ dX4_askPrices_40 rfl rfl ?_
          exact inner (2 - M 44 (dp * 4 + w)).toNat (M 44 (dp * 4 + w)) N (by omega) (by omega) (by omega) (apI_skip hN (by omega) (fun i i1 i2 q => by rw [show i / 2 = dp * 4 + w by omega] at q; omega))
  refine f_aload_n hZ dX4_askPrices_0 rfl ?_
  refine gX4_43 hZ dX4_askPrices_1 (fun r1 => ?_)
  refine f_ne (tgt := 8) hZ dX4_askPrices_4 rfl (by omega) (fun h4 => ?_) (fun h4 => ?_)
  · refine f_iconst hZ dX4_askPrices_8 ?_
    refine f_istore_n (L' := [_, _, _, _, _, _, _]) hZ dX4_askPrices_9 rfl rfl ?_
    have hpr : M 39 12 ≠ 0 := by omega
    exact loop hpr (M 1 5).toNat 0 M (by omega) (by omega) apI_0
  · exact f_retV hZ hR dX4_askPrices_7 rfl (by exact Or.inl ⟨by omega, rfl⟩)

