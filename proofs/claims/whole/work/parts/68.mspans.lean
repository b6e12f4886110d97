/-! the model's spans, tell, between -/
theorem orI_0 {a : Int} (h : rg a) : orI a 0 = a := by
  unfold orI
  rw [iv_0, iv_or0, iv_toInt h]
theorem vE_z {K : fM} {y : Int} (hn : nwf K) (h0 : 0 ≤ y) (h1 : y ≤ 400) : (vE K y = UT ↔ K 73 y = 0) ∧ (K 73 y = 0 ∨ K 73 y = 1) ∧ (K 73 y ≠ 0 → vE K y = K 74 y * 10000 + K 76 y ∧ vC K y = K 75 y ∧ (0 ≤ K 74 y ∧ K 74 y ≤ 40) ∧ (0 ≤ K 76 y ∧ K 76 y ≤ 2222)) := by
  have h := hn y h0 h1
  unfold vE vC
  by_cases hz : K 73 y = 0
  · rw [if_pos hz, if_pos hz]
    exact ⟨⟨fun _ => hz, fun _ => rfl⟩, Or.inl hz, fun q => absurd hz q⟩
  · rw [if_neg hz, if_neg hz]
    have h2 := h.resolve_left hz
    have e1 := h2.1
    have e2 := h2.2.1
    have e3 := h2.2.2.1
    clear h h2
    refine ⟨⟨fun q => ?_, fun q => absurd q hz⟩, Or.inr e1, fun _ => ⟨rfl, rfl, e2, e3⟩⟩
    have q : K 74 y * 10000 + K 76 y = 2147483647 := q
    omega
def vS (K : fM) (y : Int) : Int := if y ≤ 400 then vE K y else UT
theorem WfM.A {M : fM} (h : WfM M) : WfA (M 59 12) (M 63) (M 64) (M 65) (M 66) (M 67) := h.2.2.2
set_option maxRecDepth 20000 in
set_option maxHeartbeats 4000000 in
theorem t_X7_spans {X : fX} {M : fM} {e : Nat} {W : Int → pV} {s b : Int} (hrs : rg s) (hb : rg b) (hW : WfM M) (hG : gokM M W) : fC X (e + 81) mX7_spans [.ref (xa X 59), .int (iv s), .int (iv b)] M (QI fun r K => (¬ ((0 ≤ b ∧ b ≤ 12) ∧ someP (M 59 12) (M 65) (M 66) s) ∧ r = -2 ∧ K = M) ∨ (((0 ≤ b ∧ b ≤ 12) ∧ someP (M 59 12) (M 65) (M 66) s) ∧ tlP M W s (M 59 13) 0 0 K ∧ r = spZ (vS K) b 31)) := by
  have hn := hW.1
  have hdm := hW.2.1
  have hA := hW.A
  refine fC.of (L := [_, _, _, _, _, _]) (by decide +kernel) rfl (Nat.le_of_ble_eq_true rfl) (fun Z hZ hR => ?_)
  refine f_iload_n hZ dX7_spans_0 rfl ?_
  refine f_i2l hZ dX7_spans_1 (by omega) ?_
  refine f_lconst0 hZ dX7_spans_2 ?_
  refine f_ldc2 (v := (12 : Int64)) hZ (12) dX7_spans_3 (tb_in 1149 (by decide +kernel) (by decide +kernel)) (by decide) ?_
  refine sX7_113 hZ dX7_spans_6 (t_X7_in (by omega) (by omega) (by omega)) (fun a6 M6 r6 h6 => ?_)
  obtain ⟨e6, h6⟩ := h6
  replace e6 := e6.symm
  subst e6
  refine f_eq (tgt := 20) hZ dX7_spans_9 rfl (by omega) (fun h9 => ?_) (fun h9 => ?_)
  · refine f_bipush hZ dX7_spans_20 ?_
    exact f_retI hZ hR dX7_spans_22 rfl (by omega) (by first | exact Or.inl ⟨fun q => bz_f h14 (by omega) q.2, rfl, rfl⟩ | exact Or.inl ⟨fun q => bz_f h6 (by omega) q.1, rfl, rfl⟩)
  · refine f_aload_n hZ dX7_spans_12 rfl ?_
    refine f_iload_n hZ dX7_spans_13 rfl ?_
    refine vX7_325 hZ dX7_spans_14 (t_X7_isSome hrs hn hA) (fun a14 M14 r14 h14 => ?_)
    obtain ⟨e14, h14⟩ := h14
    replace e14 := e14.symm
    subst e14
    refine f_ne (tgt := 23) hZ dX7_spans_17 rfl (by omega) (fun h17 => ?_) (fun h17 => ?_)
    · refine f_aload_n hZ dX7_spans_23 rfl ?_
      refine f_iload_n hZ dX7_spans_24 rfl ?_
      refine f_aload_n hZ dX7_spans_25 rfl ?_
      refine gX7_133 hZ dX7_spans_26 (fun r26 => ?_)
      refine f_iconst hZ dX7_spans_29 ?_
      refine f_iconst hZ dX7_spans_30 ?_
      refine vX7_328 hZ dX7_spans_31 (t_X7_tells (a := 0) (x := 0) hW hG (bz_t h14 (by omega)) hrs hdm (Or.inl rfl) (by omega)) (fun M31 h31 => ?_)
      refine f_iconst hZ dX7_spans_34 ?_
      refine f_istore_n (L' := [_, _, _, _, _, _]) hZ dX7_spans_35 rfl rfl ?_
      refine f_iconst hZ dX7_spans_36 ?_
      refine f_istore (L' := [_, _, _, _, _, _]) hZ dX7_spans_37 rfl rfl ?_
      have hb12 : 0 ≤ b ∧ b ≤ 12 := bz_t h6 (by omega)
      have hsm := bz_t h14 (by omega)
      have hnw := h31.2.1
      have loop : ∀ (m : Nat) (i : Int), 0 ≤ i → i + m = 31 → fG X mX7_spans Z 39 [.ref (xa X 59), .int (iv s), .int (iv b), .int (iv (spZ (vS M31) b i)), .int (iv i), .null] [] M31 := by
        intro m
        induction m with
        | zero =>
          intro i h0 hw
          have hi : i = 31 := by omega
          subst hi
          refine f_iload hZ dX7_spans_39 rfl ?_
          refine f_bipush hZ dX7_spans_41 ?_
          refine f_ige (tgt := 86) hZ dX7_spans_43 rfl (by first | omega | exact spZ_rg (by omega)) (by first | omega | exact spZ_rg (by omega)) (fun h43 => ?_) (fun h43 => ?_)
          · refine f_iload_n hZ dX7_spans_86 rfl ?_
            exact f_retI hZ hR dX7_spans_87 rfl (by first | omega | exact spZ_rg (by omega)) (by exact Or.inr ⟨⟨hb12, hsm⟩, h31, rfl⟩)
          · exfalso; omega
        | succ m ih =>
          intro i h0 hw
          have hsr := spZ_rg (E := vS M31) (b := b) h0
          refine f_iload hZ dX7_spans_39 rfl ?_
          refine f_bipush hZ dX7_spans_41 ?_
          refine f_ige (tgt := 86) hZ dX7_spans_43 rfl (by first | omega | exact spZ_rg (by omega)) (by first | omega | exact spZ_rg (by omega)) (fun h43 => ?_) (fun h43 => ?_)
          · exfalso; omega
          · refine f_bipush hZ dX7_spans_46 ?_
            refine f_iload_n hZ dX7_spans_48 rfl ?_
            refine f_imul hZ dX7_spans_49 ?_
            refine f_iload hZ dX7_spans_50 rfl ?_
            refine f_iadd hZ dX7_spans_52 ?_
            refine f_istore (L' := [_, _, _, _, _, _]) hZ dX7_spans_53 rfl rfl ?_
            refine f_iload_n hZ dX7_spans_55 rfl ?_
            refine f_iload hZ dX7_spans_56 rfl ?_
            refine f_sipush hZ dX7_spans_58 ?_
            refine f_igt (tgt := 74) hZ dX7_spans_61 rfl (by first | omega | exact spZ_rg (by omega)) (by first | omega | exact spZ_rg (by omega)) (fun h61 => ?_) (fun h61 => ?_)
            · refine f_iconst hZ dX7_spans_74 ?_
              refine f_iload hZ dX7_spans_75 rfl ?_
              refine f_ishl hZ dX7_spans_77 ?_
              refine f_ior hZ dX7_spans_78 ?_
              refine f_istore_n (L' := [_, _, _, _, _, _]) hZ dX7_spans_79 rfl rfl ?_
              refine f_iinc (L' := [_, _, _, _, _, _]) hZ dX7_spans_80 rfl rfl ?_
              refine f_goto (tgt := 39) hZ dX7_spans_83 rfl ?_
              refine f_forget (L' := [_, _, _, _, _, .null]) ⟨Or.inl rfl, Or.inl rfl, Or.inl rfl, Or.inl rfl, Or.inl rfl, Or.inr rfl, trivial⟩ ?_
              have hh := ih (i + 1) (by omega) (by omega)
              rw [spZ_s h0] at hh
              first
                | (have hg : 400 < 31 * b + i := by omega
                   rw [if_neg (show ¬ vS M31 (31 * b + i) ≠ UT by unfold vS; rw [if_neg (by omega)]; exact fun q => q rfl)] at hh
                   rw [shlI_0, orI_0 hsr]
                   exact hh)
                | (have hv := vE_z hnw (show 0 ≤ 31 * b + i by omega) (by omega)
                   have hvs : vS M31 (31 * b + i) = vE M31 (31 * b + i) := if_pos (by omega)
                   rw [hvs] at hh
                   by_cases hq : M31 73 (31 * b + i) = 0
                   · rw [if_neg (fun q => q (hv.1.mpr hq))] at hh
                     rw [hq, shlI_0, orI_0 hsr]
                     exact hh
                   · rw [if_pos (fun q => hq (hv.1.mp q))] at hh
                     rw [hv.2.1.resolve_left hq]
                     exact hh)
            · refine f_aload_n hZ dX7_spans_64 rfl ?_
              refine gX7_53 hZ dX7_spans_65 ?_
              refine f_iload hZ dX7_spans_68 rfl ?_
              refine f_iaload hZ dX7_spans_70 (by first | rfl | exact hC.t1 | exact hC.t2 | exact hC.t3 | exact hC.t4 | exact hC.t5) (by first | rfl | exact hC.l1 | exact hC.l2 | exact hC.l3 | exact hC.l4 | exact hC.l5) (by first | omega | exact spZ_rg (by omega)) (by first | omega | exact spZ_rg (by omega)) (fun r70 => ?_)
              refine f_goto (tgt := 75) hZ dX7_spans_71 rfl ?_
              refine f_iload hZ dX7_spans_75 rfl ?_
              refine f_ishl hZ dX7_spans_77 ?_
              refine f_ior hZ dX7_spans_78 ?_
              refine f_istore_n (L' := [_, _, _, _, _, _]) hZ dX7_spans_79 rfl rfl ?_
              refine f_iinc (L' := [_, _, _, _, _, _]) hZ dX7_spans_80 rfl rfl ?_
              refine f_goto (tgt := 39) hZ dX7_spans_83 rfl ?_
              refine f_forget (L' := [_, _, _, _, _, .null]) ⟨Or.inl rfl, Or.inl rfl, Or.inl rfl, Or.inl rfl, Or.inl rfl, Or.inr rfl, trivial⟩ ?_
              have hh := ih (i + 1) (by omega) (by omega)
              rw [spZ_s h0] at hh
              first
                | (have hg : 400 < 31 * b + i := by omega
                   rw [if_neg (show ¬ vS M31 (31 * b + i) ≠ UT by unfold vS; rw [if_neg (by omega)]; exact fun q => q rfl)] at hh
                   rw [shlI_0, orI_0 hsr]
                   exact hh)
                | (have hv := vE_z hnw (show 0 ≤ 31 * b + i by omega) (by omega)
                   have hvs : vS M31 (31 * b + i) = vE M31 (31 * b + i) := if_pos (by omega)
                   rw [hvs] at hh
                   by_cases hq : M31 73 (31 * b + i) = 0
                   · rw [if_neg (fun q => q (hv.1.mpr hq))] at hh
                     rw [hq, shlI_0, orI_0 hsr]
                     exact hh
                   · rw [if_pos (fun q => hq (hv.1.mp q))] at hh
                     rw [hv.2.1.resolve_left hq]
                     exact hh)
      exact loop 31 0 (by omega) (by omega)
    · refine f_bipush hZ dX7_spans_20 ?_
      exact f_retI hZ hR dX7_spans_22 rfl (by omega) (by first | exact Or.inl ⟨fun q => bz_f h14 (by omega) q.2, rfl, rfl⟩ | exact Or.inl ⟨fun q => bz_f h6 (by omega) q.1, rfl, rfl⟩)

set_option maxRecDepth 20000 in
set_option maxHeartbeats 4000000 in
theorem t_X7_tell {X : fX} {M : fM} {e : Nat} {W : Int → pV} {s y q : Int} (hrs : rg s) (hy : rg y) (hq : rg q) (hW : WfM M) (hG : gokM M W) : fC X (e + 81) mX7_tell [.ref (xa X 59), .int (iv s), .int (iv y), .int (iv q)] M (QI fun r K => (¬ ((1 ≤ y ∧ y ≤ 400) ∧ (0 ≤ q ∧ q ≤ 2) ∧ someP (M 59 12) (M 65) (M 66) s) ∧ r = -2 ∧ K = M) ∨ (((1 ≤ y ∧ y ≤ 400) ∧ (0 ≤ q ∧ q ≤ 2) ∧ someP (M 59 12) (M 65) (M 66) s) ∧ tlP M W s (M 59 13) (if q = 1 then 1 else 0) 0 K ∧ r = tellR (vE K) (vC K) y q)) := by
  have hn := hW.1
  have hdm := hW.2.1
  have hA := hW.A
  refine fC.of (L := [_, _, _, _]) (by decide +kernel) rfl (Nat.le_of_ble_eq_true rfl) (fun Z hZ hR => ?_)
  refine f_aload_n hZ dX7_tell_0 rfl ?_
  refine f_iload_n hZ dX7_tell_1 rfl ?_
  refine vX7_325 hZ dX7_tell_2 (t_X7_isSome hrs hn hA) (fun a2 M2 r2 h2 => ?_)
  obtain ⟨e2, h2⟩ := h2
  replace e2 := e2.symm
  subst e2
  refine f_eq (tgt := 32) hZ dX7_tell_5 rfl (by omega) (fun h5 => ?_) (fun h5 => ?_)
  · refine f_bipush hZ dX7_tell_32 ?_
    exact f_retI hZ hR dX7_tell_34 rfl (by omega) (by first | exact Or.inl ⟨fun z => bz_f h2 (by omega) z.2.2, rfl, rfl⟩ | exact Or.inl ⟨fun z => bz_f h14 (by omega) z.1, rfl, rfl⟩ | exact Or.inl ⟨fun z => bz_f h26 (by omega) z.2.1, rfl, rfl⟩)
  · refine f_iload_n hZ dX7_tell_8 rfl ?_
    refine f_i2l hZ dX7_tell_9 (by omega) ?_
    refine f_lconst1 hZ dX7_tell_10 ?_
    refine f_ldc2 (v := (400 : Int64)) hZ (400) dX7_tell_11 (tb_in 1182 (by decide +kernel) (by decide +kernel)) (by decide) ?_
    refine sX7_113 hZ dX7_tell_14 (t_X7_in (by omega) (by omega) (by omega)) (fun a14 M14 r14 h14 => ?_)
    obtain ⟨e14, h14⟩ := h14
    replace e14 := e14.symm
    subst e14
    refine f_eq (tgt := 32) hZ dX7_tell_17 rfl (by omega) (fun h17 => ?_) (fun h17 => ?_)
    · refine f_bipush hZ dX7_tell_32 ?_
      exact f_retI hZ hR dX7_tell_34 rfl (by omega) (by first | exact Or.inl ⟨fun z => bz_f h2 (by omega) z.2.2, rfl, rfl⟩ | exact Or.inl ⟨fun z => bz_f h14 (by omega) z.1, rfl, rfl⟩ | exact Or.inl ⟨fun z => bz_f h26 (by omega) z.2.1, rfl, rfl⟩)
    · refine f_iload_n hZ dX7_tell_20 rfl ?_
      refine f_i2l hZ dX7_tell_21 (by omega) ?_
      refine f_lconst0 hZ dX7_tell_22 ?_
      refine f_ldc2 (v := (2 : Int64)) hZ (2) dX7_tell_23 (tb_in 1018 (by decide +kernel) (by decide +kernel)) (by decide) ?_
      refine sX7_113 hZ dX7_tell_26 (t_X7_in (by omega) (by omega) (by omega)) (fun a26 M26 r26 h26 => ?_)
      obtain ⟨e26, h26⟩ := h26
      replace e26 := e26.symm
      subst e26
      refine f_ne (tgt := 35) hZ dX7_tell_29 rfl (by omega) (fun h29 => ?_) (fun h29 => ?_)
      · refine f_aload_n hZ dX7_tell_35 rfl ?_
        refine f_iload_n hZ dX7_tell_36 rfl ?_
        refine f_aload_n hZ dX7_tell_37 rfl ?_
        refine gX7_133 hZ dX7_tell_38 (fun r38 => ?_)
        refine f_iload_n hZ dX7_tell_41 rfl ?_
        refine f_iconst hZ dX7_tell_42 ?_
        refine f_ine (tgt := 50) hZ dX7_tell_43 rfl (by omega) (by omega) (fun h43 => ?_) (fun h43 => ?_)
        · refine f_iconst hZ dX7_tell_50 ?_
          refine f_iconst hZ dX7_tell_51 ?_
          refine vX7_328 hZ dX7_tell_52 (t_X7_tells (x := 0) hW hG (bz_t h2 (by omega)) hrs hdm (by omega) (by omega)) (fun M52 h52 => ?_)
          have h14t : 1 ≤ y ∧ y ≤ 400 := bz_t h14 (by omega)
          have h26t : 0 ≤ q ∧ q ≤ 2 := bz_t h26 (by omega)
          have hv := vE_z h52.2.1 (show 0 ≤ y by omega) (by omega)
          have hv0 := hv.1
          have hv1 := hv.2.2
          have h52 : tlP M W s (M 59 13) (if q = 1 then 1 else 0) 0 M52 := by
            first
            | (rw [if_pos (by omega)]; exact h52)
            | (rw [if_neg (by omega)]; exact h52)
          refine f_aload_n hZ dX7_tell_55 rfl ?_
          refine gX7_53 hZ dX7_tell_56 ?_
          refine f_iload_n hZ dX7_tell_59 rfl ?_
          refine f_iaload hZ dX7_tell_60 (by first | rfl | exact hC.t1 | exact hC.t2 | exact hC.t3 | exact hC.t4 | exact hC.t5) (by first | rfl | exact hC.l1 | exact hC.l2 | exact hC.l3 | exact hC.l4 | exact hC.l5) (by omega) (by omega) (fun r60 => ?_)
          try simp only [up_app, Nat.reduceEqDiff, Nat.reduceEqDiff, Int.reduceEq, and_true, true_and, and_false, false_and, if_true, if_false, reduceIte] at r60 ⊢
          refine f_ne (tgt := 66) hZ dX7_tell_61 rfl (by omega) (fun h61 => ?_) (fun h61 => ?_)
          · refine f_iload_n hZ dX7_tell_66 rfl ?_
            refine f_ne (tgt := 79) hZ dX7_tell_67 rfl (by omega) (fun h67 => ?_) (fun h67 => ?_)
            · refine f_iload_n hZ dX7_tell_79 rfl ?_
              refine f_iconst hZ dX7_tell_80 ?_
              refine f_ine (tgt := 93) hZ dX7_tell_81 rfl (by omega) (by omega) (fun h81 => ?_) (fun h81 => ?_)
              · refine f_aload_n hZ dX7_tell_93 rfl ?_
                refine gX7_62 hZ dX7_tell_94 ?_
                refine f_iload_n hZ dX7_tell_97 rfl ?_
                refine f_iaload hZ dX7_tell_98 (by first | rfl | exact hC.t1 | exact hC.t2 | exact hC.t3 | exact hC.t4 | exact hC.t5) (by first | rfl | exact hC.l1 | exact hC.l2 | exact hC.l3 | exact hC.l4 | exact hC.l5) (by omega) (by omega) (fun r98 => ?_)
                try simp only [up_app, Nat.reduceEqDiff, Nat.reduceEqDiff, Int.reduceEq, and_true, true_and, and_false, false_and, if_true, if_false, reduceIte] at r98 ⊢
                have hz1 := hv1 (by omega)
                have hz2 := hz1.2.2.1
                have hz3 := hz1.2.2.2
                refine f_retI hZ hR dX7_tell_99 rfl (by omega) ?_
                refine Or.inr ⟨⟨h14t, h26t, bz_t h2 (by omega)⟩, h52, ?_⟩
                unfold tellR
                rw [if_neg (fun z => by have := hv0.mp z; omega)]
                first
                  | (rw [if_neg (by omega), if_pos (by omega), hz1.1, Int.tdiv_eq_ediv_of_nonneg (by omega)]; omega)
                  | (rw [if_pos (by omega), hz1.2.1])
                  | (rw [if_neg (by omega), if_neg (by omega), hz1.1, Int.tmod_eq_emod_of_nonneg (by omega)]; omega)
              · refine f_aload_n hZ dX7_tell_84 rfl ?_
                refine gX7_59 hZ dX7_tell_85 ?_
                refine f_iload_n hZ dX7_tell_88 rfl ?_
                refine f_iaload hZ dX7_tell_89 (by first | rfl | exact hC.t1 | exact hC.t2 | exact hC.t3 | exact hC.t4 | exact hC.t5) (by first | rfl | exact hC.l1 | exact hC.l2 | exact hC.l3 | exact hC.l4 | exact hC.l5) (by omega) (by omega) (fun r89 => ?_)
                try simp only [up_app, Nat.reduceEqDiff, Nat.reduceEqDiff, Int.reduceEq, and_true, true_and, and_false, false_and, if_true, if_false, reduceIte] at r89 ⊢
                refine f_goto (tgt := 99) hZ dX7_tell_90 rfl ?_
                have hz1 := hv1 (by omega)
                have hz2 := hz1.2.2.1
                have hz3 := hz1.2.2.2
                refine f_retI hZ hR dX7_tell_99 rfl (by omega) ?_
                refine Or.inr ⟨⟨h14t, h26t, bz_t h2 (by omega)⟩, h52, ?_⟩
                unfold tellR
                rw [if_neg (fun z => by have := hv0.mp z; omega)]
                first
                  | (rw [if_neg (by omega), if_pos (by omega), hz1.1, Int.tdiv_eq_ediv_of_nonneg (by omega)]; omega)
                  | (rw [if_pos (by omega), hz1.2.1])
                  | (rw [if_neg (by omega), if_neg (by omega), hz1.1, Int.tmod_eq_emod_of_nonneg (by omega)]; omega)
            · refine f_aload_n hZ dX7_tell_70 rfl ?_
              refine gX7_56 hZ dX7_tell_71 ?_
              refine f_iload_n hZ dX7_tell_74 rfl ?_
              refine f_iaload hZ dX7_tell_75 (by first | rfl | exact hC.t1 | exact hC.t2 | exact hC.t3 | exact hC.t4 | exact hC.t5) (by first | rfl | exact hC.l1 | exact hC.l2 | exact hC.l3 | exact hC.l4 | exact hC.l5) (by omega) (by omega) (fun r75 => ?_)
              try simp only [up_app, Nat.reduceEqDiff, Nat.reduceEqDiff, Int.reduceEq, and_true, true_and, and_false, false_and, if_true, if_false, reduceIte] at r75 ⊢
              refine f_goto (tgt := 99) hZ dX7_tell_76 rfl ?_
              have hz1 := hv1 (by omega)
              have hz2 := hz1.2.2.1
              have hz3 := hz1.2.2.2
              refine f_retI hZ hR dX7_tell_99 rfl (by omega) ?_
              refine Or.inr ⟨⟨h14t, h26t, bz_t h2 (by omega)⟩, h52, ?_⟩
              unfold tellR
              rw [if_neg (fun z => by have := hv0.mp z; omega)]
              first
                | (rw [if_neg (by omega), if_pos (by omega), hz1.1, Int.tdiv_eq_ediv_of_nonneg (by omega)]; omega)
                | (rw [if_pos (by omega), hz1.2.1])
                | (rw [if_neg (by omega), if_neg (by omega), hz1.1, Int.tmod_eq_emod_of_nonneg (by omega)]; omega)
          · refine f_iconst hZ dX7_tell_64 ?_
            refine f_retI hZ hR dX7_tell_65 rfl (by omega) ?_
            refine Or.inr ⟨⟨h14t, h26t, bz_t h2 (by omega)⟩, h52, ?_⟩
            unfold tellR
            rw [if_pos (hv0.mpr (by omega))]
        · refine f_iconst hZ dX7_tell_46 ?_
          refine f_goto (tgt := 51) hZ dX7_tell_47 rfl ?_
          refine f_iconst hZ dX7_tell_51 ?_
          refine vX7_328 hZ dX7_tell_52 (t_X7_tells (x := 0) hW hG (bz_t h2 (by omega)) hrs hdm (by omega) (by omega)) (fun M52 h52 => ?_)
          have h14t : 1 ≤ y ∧ y ≤ 400 := bz_t h14 (by omega)
          have h26t : 0 ≤ q ∧ q ≤ 2 := bz_t h26 (by omega)
          have hv := vE_z h52.2.1 (show 0 ≤ y by omega) (by omega)
          have hv0 := hv.1
          have hv1 := hv.2.2
          have h52 : tlP M W s (M 59 13) (if q = 1 then 1 else 0) 0 M52 := by
            first
            | (rw [if_pos (by omega)]; exact h52)
            | (rw [if_neg (by omega)]; exact h52)
          refine f_aload_n hZ dX7_tell_55 rfl ?_
          refine gX7_53 hZ dX7_tell_56 ?_
          refine f_iload_n hZ dX7_tell_59 rfl ?_
          refine f_iaload hZ dX7_tell_60 (by first | rfl | exact hC.t1 | exact hC.t2 | exact hC.t3 | exact hC.t4 | exact hC.t5) (by first | rfl | exact hC.l1 | exact hC.l2 | exact hC.l3 | exact hC.l4 | exact hC.l5) (by omega) (by omega) (fun r60 => ?_)
          try simp only [up_app, Nat.reduceEqDiff, Nat.reduceEqDiff, Int.reduceEq, and_true, true_and, and_false, false_and, if_true, if_false, reduceIte] at r60 ⊢
          refine f_ne (tgt := 66) hZ dX7_tell_61 rfl (by omega) (fun h61 => ?_) (fun h61 => ?_)
          · refine f_iload_n hZ dX7_tell_66 rfl ?_
            refine f_ne (tgt := 79) hZ dX7_tell_67 rfl (by omega) (fun h67 => ?_) (fun h67 => ?_)
            · refine f_iload_n hZ dX7_tell_79 rfl ?_
              refine f_iconst hZ dX7_tell_80 ?_
              refine f_ine (tgt := 93) hZ dX7_tell_81 rfl (by omega) (by omega) (fun h81 => ?_) (fun h81 => ?_)
              · refine f_aload_n hZ dX7_tell_93 rfl ?_
                refine gX7_62 hZ dX7_tell_94 ?_
                refine f_iload_n hZ dX7_tell_97 rfl ?_
                refine f_iaload hZ dX7_tell_98 (by first | rfl | exact hC.t1 | exact hC.t2 | exact hC.t3 | exact hC.t4 | exact hC.t5) (by first | rfl | exact hC.l1 | exact hC.l2 | exact hC.l3 | exact hC.l4 | exact hC.l5) (by omega) (by omega) (fun r98 => ?_)
                try simp only [up_app, Nat.reduceEqDiff, Nat.reduceEqDiff, Int.reduceEq, and_true, true_and, and_false, false_and, if_true, if_false, reduceIte] at r98 ⊢
                have hz1 := hv1 (by omega)
                have hz2 := hz1.2.2.1
                have hz3 := hz1.2.2.2
                refine f_retI hZ hR dX7_tell_99 rfl (by omega) ?_
                refine Or.inr ⟨⟨h14t, h26t, bz_t h2 (by omega)⟩, h52, ?_⟩
                unfold tellR
                rw [if_neg (fun z => by have := hv0.mp z; omega)]
                first
                  | (rw [if_neg (by omega), if_pos (by omega), hz1.1, Int.tdiv_eq_ediv_of_nonneg (by omega)]; omega)
                  | (rw [if_pos (by omega), hz1.2.1])
                  | (rw [if_neg (by omega), if_neg (by omega), hz1.1, Int.tmod_eq_emod_of_nonneg (by omega)]; omega)
              · refine f_aload_n hZ dX7_tell_84 rfl ?_
                refine gX7_59 hZ dX7_tell_85 ?_
                refine f_iload_n hZ dX7_tell_88 rfl ?_
                refine f_iaload hZ dX7_tell_89 (by first | rfl | exact hC.t1 | exact hC.t2 | exact hC.t3 | exact hC.t4 | exact hC.t5) (by first | rfl | exact hC.l1 | exact hC.l2 | exact hC.l3 | exact hC.l4 | exact hC.l5) (by omega) (by omega) (fun r89 => ?_)
                try simp only [up_app, Nat.reduceEqDiff, Nat.reduceEqDiff, Int.reduceEq, and_true, true_and, and_false, false_and, if_true, if_false, reduceIte] at r89 ⊢
                refine f_goto (tgt := 99) hZ dX7_tell_90 rfl ?_
                have hz1 := hv1 (by omega)
                have hz2 := hz1.2.2.1
                have hz3 := hz1.2.2.2
                refine f_retI hZ hR dX7_tell_99 rfl (by omega) ?_
                refine Or.inr ⟨⟨h14t, h26t, bz_t h2 (by omega)⟩, h52, ?_⟩
                unfold tellR
                rw [if_neg (fun z => by have := hv0.mp z; omega)]
                first
                  | (rw [if_neg (by omega), if_pos (by omega), hz1.1, Int.tdiv_eq_ediv_of_nonneg (by omega)]; omega)
                  | (rw [if_pos (by omega), hz1.2.1])
                  | (rw [if_neg (by omega), if_neg (by omega), hz1.1, Int.tmod_eq_emod_of_nonneg (by omega)]; omega)
            · refine f_aload_n hZ dX7_tell_70 rfl ?_
              refine gX7_56 hZ dX7_tell_71 ?_
              refine f_iload_n hZ dX7_tell_74 rfl ?_
              refine f_iaload hZ dX7_tell_75 (by first | rfl | exact hC.t1 | exact hC.t2 | exact hC.t3 | exact hC.t4 | exact hC.t5) (by first | rfl | exact hC.l1 | exact hC.l2 | exact hC.l3 | exact hC.l4 | exact hC.l5) (by omega) (by omega) (fun r75 => ?_)
              try simp only [up_app, Nat.reduceEqDiff, Nat.reduceEqDiff, Int.reduceEq, and_true, true_and, and_false, false_and, if_true, if_false, reduceIte] at r75 ⊢
              refine f_goto (tgt := 99) hZ dX7_tell_76 rfl ?_
              have hz1 := hv1 (by omega)
              have hz2 := hz1.2.2.1
              have hz3 := hz1.2.2.2
              refine f_retI hZ hR dX7_tell_99 rfl (by omega) ?_
              refine Or.inr ⟨⟨h14t, h26t, bz_t h2 (by omega)⟩, h52, ?_⟩
              unfold tellR
              rw [if_neg (fun z => by have := hv0.mp z; omega)]
              first
                | (rw [if_neg (by omega), if_pos (by omega), hz1.1, Int.tdiv_eq_ediv_of_nonneg (by omega)]; omega)
                | (rw [if_pos (by omega), hz1.2.1])
                | (rw [if_neg (by omega), if_neg (by omega), hz1.1, Int.tmod_eq_emod_of_nonneg (by omega)]; omega)
          · refine f_iconst hZ dX7_tell_64 ?_
            refine f_retI hZ hR dX7_tell_65 rfl (by omega) ?_
            refine Or.inr ⟨⟨h14t, h26t, bz_t h2 (by omega)⟩, h52, ?_⟩
            unfold tellR
            rw [if_pos (hv0.mpr (by omega))]
      · refine f_bipush hZ dX7_tell_32 ?_
        exact f_retI hZ hR dX7_tell_34 rfl (by omega) (by first | exact Or.inl ⟨fun z => bz_f h2 (by omega) z.2.2, rfl, rfl⟩ | exact Or.inl ⟨fun z => bz_f h14 (by omega) z.1, rfl, rfl⟩ | exact Or.inl ⟨fun z => bz_f h26 (by omega) z.2.1, rfl, rfl⟩)

set_option maxRecDepth 20000 in
set_option maxHeartbeats 4000000 in
theorem t_X7_between {X : fX} {M : fM} {e : Nat} {W : Int → pV} {s y : Int} (hrs : rg s) (hy : rg y) (hW : WfM M) (hG : gokM M W) : fC X (e + 81) mX7_between [.ref (xa X 59), .int (iv s), .int (iv y)] M (QI fun r K => (¬ ((1 ≤ y ∧ y ≤ 400) ∧ someP (M 59 12) (M 65) (M 66) s) ∧ r = -2 ∧ K = M) ∨ (((1 ≤ y ∧ y ≤ 400) ∧ someP (M 59 12) (M 65) (M 66) s) ∧ tlP M W s (M 59 13) 0 y K ∧ bz r (K 59 44 = 1))) := by
  have hn := hW.1
  have hdm := hW.2.1
  have hA := hW.A
  refine fC.of (L := [_, _, _]) (by decide +kernel) rfl (Nat.le_of_ble_eq_true rfl) (fun Z hZ hR => ?_)
  refine f_aload_n hZ dX7_between_0 rfl ?_
  refine f_iload_n hZ dX7_between_1 rfl ?_
  refine vX7_325 hZ dX7_between_2 (t_X7_isSome hrs hn hA) (fun a2 M2 r2 h2 => ?_)
  obtain ⟨e2, h2⟩ := h2
  replace e2 := e2.symm
  subst e2
  refine f_eq (tgt := 20) hZ dX7_between_5 rfl (by omega) (fun h5 => ?_) (fun h5 => ?_)
  · refine f_bipush hZ dX7_between_20 ?_
    exact f_retI hZ hR dX7_between_22 rfl (by omega) (by first | exact Or.inl ⟨fun z => bz_f h2 (by omega) z.2, rfl, rfl⟩ | exact Or.inl ⟨fun z => bz_f h14 (by omega) z.1, rfl, rfl⟩ | exact Or.inr ⟨⟨bz_t h14 (by omega), bz_t h2 (by omega)⟩, h31, Or.inl ⟨rfl, by omega⟩⟩ | exact Or.inr ⟨⟨bz_t h14 (by omega), bz_t h2 (by omega)⟩, h31, Or.inr ⟨rfl, by omega⟩⟩)
  · refine f_iload_n hZ dX7_between_8 rfl ?_
    refine f_i2l hZ dX7_between_9 (by omega) ?_
    refine f_lconst1 hZ dX7_between_10 ?_
    refine f_ldc2 (v := (400 : Int64)) hZ (400) dX7_between_11 (tb_in 1182 (by decide +kernel) (by decide +kernel)) (by decide) ?_
    refine sX7_113 hZ dX7_between_14 (t_X7_in (by omega) (by omega) (by omega)) (fun a14 M14 r14 h14 => ?_)
    obtain ⟨e14, h14⟩ := h14
    replace e14 := e14.symm
    subst e14
    refine f_ne (tgt := 23) hZ dX7_between_17 rfl (by omega) (fun h17 => ?_) (fun h17 => ?_)
    · refine f_aload_n hZ dX7_between_23 rfl ?_
      refine f_iload_n hZ dX7_between_24 rfl ?_
      refine f_aload_n hZ dX7_between_25 rfl ?_
      refine gX7_133 hZ dX7_between_26 (fun r26 => ?_)
      refine f_iconst hZ dX7_between_29 ?_
      refine f_iload_n hZ dX7_between_30 rfl ?_
      refine vX7_328 hZ dX7_between_31 (t_X7_tells (a := 0) (x := y) hW hG (bz_t h2 (by omega)) hrs hdm (Or.inl rfl) (by omega)) (fun M31 h31 => ?_)
      have h44 := h31.2.2.2.2
      refine f_aload_n hZ dX7_between_34 rfl ?_
      refine gX7_298 hZ dX7_between_35 (fun r35 => ?_)
      try simp only [up_app, Nat.reduceEqDiff, Nat.reduceEqDiff, Int.reduceEq, and_true, true_and, and_false, false_and, if_true, if_false, reduceIte] at r35 ⊢
      refine f_eq (tgt := 45) hZ dX7_between_38 rfl (by omega) (fun h38 => ?_) (fun h38 => ?_)
      · refine f_iconst hZ dX7_between_45 ?_
        exact f_retI hZ hR dX7_between_46 rfl (by omega) (by first | exact Or.inl ⟨fun z => bz_f h2 (by omega) z.2, rfl, rfl⟩ | exact Or.inl ⟨fun z => bz_f h14 (by omega) z.1, rfl, rfl⟩ | exact Or.inr ⟨⟨bz_t h14 (by omega), bz_t h2 (by omega)⟩, h31, Or.inl ⟨rfl, by omega⟩⟩ | exact Or.inr ⟨⟨bz_t h14 (by omega), bz_t h2 (by omega)⟩, h31, Or.inr ⟨rfl, by omega⟩⟩)
      · refine f_iconst hZ dX7_between_41 ?_
        refine f_goto (tgt := 46) hZ dX7_between_42 rfl ?_
        exact f_retI hZ hR dX7_between_46 rfl (by omega) (by first | exact Or.inl ⟨fun z => bz_f h2 (by omega) z.2, rfl, rfl⟩ | exact Or.inl ⟨fun z => bz_f h14 (by omega) z.1, rfl, rfl⟩ | exact Or.inr ⟨⟨bz_t h14 (by omega), bz_t h2 (by omega)⟩, h31, Or.inl ⟨rfl, by omega⟩⟩ | exact Or.inr ⟨⟨bz_t h14 (by omega), bz_t h2 (by omega)⟩, h31, Or.inr ⟨rfl, by omega⟩⟩)
    · refine f_bipush hZ dX7_between_20 ?_
      exact f_retI hZ hR dX7_between_22 rfl (by omega) (by first | exact Or.inl ⟨fun z => bz_f h2 (by omega) z.2, rfl, rfl⟩ | exact Or.inl ⟨fun z => bz_f h14 (by omega) z.1, rfl, rfl⟩ | exact Or.inr ⟨⟨bz_t h14 (by omega), bz_t h2 (by omega)⟩, h31, Or.inl ⟨rfl, by omega⟩⟩ | exact Or.inr ⟨⟨bz_t h14 (by omega), bz_t h2 (by omega)⟩, h31, Or.inr ⟨rfl, by omega⟩⟩)

