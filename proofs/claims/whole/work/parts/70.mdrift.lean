/-! the model's drifts, copies, best -/
def dfM (M : fM) (W : Int → pV) (w k x : Int) : Int := bd 99 (W 2 (nmf (M 65 w) (M 59 13) 0 0 k x))
theorem dfM_rg {M : fM} {W : Int → pV} {w k x : Int} : 0 ≤ dfM M W w k x ∧ dfM M W w k x ≤ 99 := bd_rg (by omega)
def drG (M K : fM) : Prop := ((∀ c, c ≠ 59 → c ≠ 78 → c ≠ 79 → K c = M c) ∧ ∀ k, (k < 15 ∨ 29 < k) → K 59 k = M 59 k) ∧ K 78 0 = 0 ∧ K 79 0 = 0
theorem drG.trans {M N K : fM} (h : drG M N) (h2 : drG N K) : drG M K := ⟨⟨fun c a b e => by rw [h2.1.1 c a b e, h.1.1 c a b e], fun k a => by rw [h2.1.2 k a, h.1.2 k a]⟩, h2.2⟩
theorem dfM_eq {M N : fM} {W : Int → pV} {w : Int} (h1 : N 59 13 = M 59 13) (h4 : N 65 = M 65) : dfM N W w = dfM M W w := by funext k x; unfold dfM; rw [h1, h4]
theorem drG_gok {M K : fM} {W : Int → pV} (h : drG M K) (hW : WfM M) (hG : gokM M W) : WfM K ∧ gokM K W := ⟨hW.eq (fun k a b => h.1.2 k (by omega)) (fun c a b => h.1.1 c (by omega) (by omega) (by omega)), hG.eq (h.1.2 4 (by omega)) (h.1.1 60 (by decide) (by decide) (by decide)) (h.1.1 61 (by decide) (by decide) (by decide))⟩
def drJ (M : fM) (b : Int) (f : Int → Int → Int) (k : Int) (N : fM) : Prop := ((∀ c, c ≠ 59 → c ≠ 78 → c ≠ 79 → N c = M c) ∧ ∀ j, (j < 15 ∨ 29 < j) → N 59 j = M 59 j) ∧ N 79 = (drS b f (M 79) (M 78) k.toNat).1 ∧ N 78 = (drS b f (M 79) (M 78) k.toNat).2.1
theorem drJ_step {M N K : fM} {f : Int → Int → Int} {b k t r : Int} (hN : drJ M b f (k - 1) N) (hk : 1 ≤ k) (ht : t = (k - 1).tdiv b) (hK : sY (up N 79 k (N 79 t + 1)) K) (hr : r = f k ((drS b f (M 79) (M 78) (k - 1).toNat).1 t + 1)) : drJ M b f (k + 1 - 1) (up K 78 k (N 78 t + r)) := by
  obtain ⟨⟨h1, h1b⟩, h2, h3⟩ := hN
  have e0 : (((k - 1).toNat : Nat) : Int) = k - 1 := by omega
  have e1 : (k + 1 - 1).toNat = (k - 1).toNat + 1 := by omega
  have k78 : K 78 = N 78 := by rw [hK.1 78 (by decide), up_ne (by decide)]
  have k79 : K 79 = up N 79 k (N 79 t + 1) 79 := hK.1 79 (by decide)
  refine ⟨⟨fun c a b e => by rw [up_ne b, hK.1 c a, up_ne e, h1 c a b e], fun j a => by rw [up_ne (by decide), hK.2 j a, up_ne (by decide), h1b j a]⟩, ?_, ?_⟩
  · rw [up_ne (by decide), k79, e1]
    show up N 79 k (N 79 t + 1) 79 = updI (drS b f (M 79) (M 78) (k - 1).toNat).1 (((k - 1).toNat : Int) + 1) ((drS b f (M 79) (M 78) (k - 1).toNat).1 (((k - 1).toNat : Int).tdiv b) + 1)
    rw [up_upI, e0, show k - 1 + 1 = k by omega, ← ht, h2]
  · rw [e1]
    show up K 78 k (N 78 t + r) 78 = updI (drS b f (M 79) (M 78) (k - 1).toNat).2.1 (((k - 1).toNat : Int) + 1) ((drS b f (M 79) (M 78) (k - 1).toNat).2.1 (((k - 1).toNat : Int).tdiv b) + f (((k - 1).toNat : Int) + 1) ((drS b f (M 79) (M 78) (k - 1).toNat).1 (((k - 1).toNat : Int).tdiv b) + 1))
    rw [up_upI, k78, e0, show k - 1 + 1 = k by omega, ← ht, h3, hr]
theorem drJ.fin {M N : fM} {W : Int → pV} {w b n : Int} (hN : drJ M b (dfM M W w) (n + 1 - 1) N) (hb : 1 ≤ b) (h79 : M 79 0 = 0) (h78 : M 78 0 = 0) (hn : 0 ≤ n) : drG M N ∧ (drS b (dfM M W w) (M 79) (M 78) (n + 1 - 1).toNat).2.2 = drZ (dfM M W w) n b := by
  obtain ⟨h1, h2, h3⟩ := hN
  have hr := (drS_rg (f := dfM M W w) hb (fun _ _ => dfM_rg) h79 h78 (n + 1 - 1).toNat).1 0 (by omega) (by omega)
  refine ⟨⟨h1, by rw [h3]; omega, by rw [h2]; omega⟩, ?_⟩
  rw [show n + 1 - 1 = n by omega]
  exact (drS_cg hb h79 h78 n.toNat).2
set_option maxRecDepth 20000 in
set_option maxHeartbeats 4000000 in
theorem t_X7_drifts {X : fX} {M : fM} {e : Nat} {W : Int → pV} {w n b : Int} (hw0 : 0 ≤ w ∧ w < M 59 12) (hn0 : 1 ≤ n ∧ n ≤ 12) (hb : 1 ≤ b ∧ b ≤ 4) (h78 : M 78 0 = 0) (h79 : M 79 0 = 0) (hW : WfM M) (hG : gokM M W) : fC X (e + 49) mX7_drifts [.ref (xa X 59), .int (iv w), .int (iv n), .int (iv b)] M (QI fun r K => drG M K ∧ r = drZ (dfM M W w) n b) := by
  have hn := hW.1
  have hdm := hW.2.1
  have hA := hW.A
  refine fC.of (L := [_, _, _, _, _, _, _]) (by decide +kernel) rfl (Nat.le_of_ble_eq_true rfl) (fun Z hZ hR => ?_)
  have loop : ∀ (m : Nat) (k : Int) (N : fM), 1 ≤ k → k + m = n + 1 → drJ M b (dfM M W w) (k - 1) N → fG X mX7_drifts Z 6 [.ref (xa X 59), .int (iv w), .int (iv n), .int (iv b), .int (iv (drS b (dfM M W w) (M 79) (M 78) (k - 1).toNat).2.2), .int (iv k), .null] [] N := by
    intro m
    induction m with
    | zero =>
      intro k N hk1 hkm hN
      have hdr := drS_rg (f := dfM M W w) hb.1 (fun _ _ => dfM_rg) h79 h78 (k - 1).toNat
      refine f_iload hZ dX7_drifts_6 rfl ?_
      refine f_iload_n hZ dX7_drifts_8 rfl ?_
      refine f_igt (tgt := 105) hZ dX7_drifts_9 rfl (by omega) (by omega) (fun h9 => ?_) (fun h9 => ?_)
      · refine f_iload hZ dX7_drifts_105 rfl ?_
        exact f_retI hZ hR dX7_drifts_107 rfl (by omega) (by rw [show k = n + 1 by omega] at hN ⊢; exact drJ.fin hN hb.1 h79 h78 (by omega))
      · exfalso; omega
    | succ m ih =>
      intro k N hk1 hkm hN
      have hN65 : N 65 = M 65 := hN.1.1 65 (by decide) (by decide) (by decide)
      have hN13 : N 59 13 = M 59 13 := hN.1.2 13 (by omega)
      have hdr := drS_rg (f := dfM M W w) hb.1 (fun _ _ => dfM_rg) h79 h78 (k - 1).toNat
      have htd := tdb (k := k - 1) (b := b) (by omega) hb.1
      have hqa := (hA w hw0.1 hw0.2).2.2.1
      refine f_iload hZ dX7_drifts_6 rfl ?_
      refine f_iload_n hZ dX7_drifts_8 rfl ?_
      refine f_igt (tgt := 105) hZ dX7_drifts_9 rfl (by first | omega | exact rg_tdiv (by omega) (by omega) | (simp only [up_app, Nat.reduceEqDiff, Int.reduceEq, and_self, true_and, and_true, false_and, and_false, if_true, if_false, reduceIte, hN65, hN13, up_ne (show (65 : Nat) ≠ 79 by decide), up_ne (show (59 : Nat) ≠ 79 by decide), up_ne (show (78 : Nat) ≠ 79 by decide)]; omega)) (by first | omega | exact rg_tdiv (by omega) (by omega) | (simp only [up_app, Nat.reduceEqDiff, Int.reduceEq, and_self, true_and, and_true, false_and, and_false, if_true, if_false, reduceIte, hN65, hN13, up_ne (show (65 : Nat) ≠ 79 by decide), up_ne (show (59 : Nat) ≠ 79 by decide), up_ne (show (78 : Nat) ≠ 79 by decide)]; omega)) (fun h9 => ?_) (fun h9 => ?_)
      · exfalso; omega
      · refine f_iload hZ dX7_drifts_12 rfl ?_
        refine f_iconst hZ dX7_drifts_14 ?_
        refine f_isub hZ dX7_drifts_15 ?_
        refine f_iload_n hZ dX7_drifts_16 rfl ?_
        refine f_idiv hZ dX7_drifts_17 (by first | omega | exact rg_tdiv (by omega) (by omega) | (simp only [up_app, Nat.reduceEqDiff, Int.reduceEq, and_self, true_and, and_true, false_and, and_false, if_true, if_false, reduceIte, hN65, hN13, up_ne (show (65 : Nat) ≠ 79 by decide), up_ne (show (59 : Nat) ≠ 79 by decide), up_ne (show (78 : Nat) ≠ 79 by decide)]; omega)) (by first | omega | exact rg_tdiv (by omega) (by omega) | (simp only [up_app, Nat.reduceEqDiff, Int.reduceEq, and_self, true_and, and_true, false_and, and_false, if_true, if_false, reduceIte, hN65, hN13, up_ne (show (65 : Nat) ≠ 79 by decide), up_ne (show (59 : Nat) ≠ 79 by decide), up_ne (show (78 : Nat) ≠ 79 by decide)]; omega)) (by first | omega | exact rg_tdiv (by omega) (by omega) | (simp only [up_app, Nat.reduceEqDiff, Int.reduceEq, and_self, true_and, and_true, false_and, and_false, if_true, if_false, reduceIte, hN65, hN13, up_ne (show (65 : Nat) ≠ 79 by decide), up_ne (show (59 : Nat) ≠ 79 by decide), up_ne (show (78 : Nat) ≠ 79 by decide)]; omega)) (by first | omega | exact rg_tdiv (by omega) (by omega) | (simp only [up_app, Nat.reduceEqDiff, Int.reduceEq, and_self, true_and, and_true, false_and, and_false, if_true, if_false, reduceIte, hN65, hN13, up_ne (show (65 : Nat) ≠ 79 by decide), up_ne (show (59 : Nat) ≠ 79 by decide), up_ne (show (78 : Nat) ≠ 79 by decide)]; omega)) ?_
        refine f_nm (fun t6 et6 => ?_)
        refine f_istore (L' := [_, _, _, _, _, _, _]) hZ dX7_drifts_18 rfl rfl ?_
        have hfr := hdr.1 t6 (by omega) (by omega)
        have hn79 : N 79 t6 = (drS b (dfM M W w) (M 79) (M 78) (k - 1).toNat).1 t6 := by rw [hN.2.1]
        have hn78 : N 78 t6 = (drS b (dfM M W w) (M 79) (M 78) (k - 1).toNat).2.1 t6 := by rw [hN.2.2]
        refine f_aload_n hZ dX7_drifts_20 rfl ?_
        refine gX7_72 hZ dX7_drifts_21 ?_
        refine f_iload hZ dX7_drifts_24 rfl ?_
        refine f_aload_n hZ dX7_drifts_26 rfl ?_
        refine gX7_72 hZ dX7_drifts_27 ?_
        refine f_iload hZ dX7_drifts_30 rfl ?_
        refine f_iaload hZ dX7_drifts_32 (by first | rfl | exact hC.t1 | exact hC.t2 | exact hC.t3 | exact hC.t4 | exact hC.t5) (by first | rfl | exact hC.l1 | exact hC.l2 | exact hC.l3 | exact hC.l4 | exact hC.l5) (by first | omega | exact rg_tdiv (by omega) (by omega) | (simp only [up_app, Nat.reduceEqDiff, Int.reduceEq, and_self, true_and, and_true, false_and, and_false, if_true, if_false, reduceIte, hN65, hN13, up_ne (show (65 : Nat) ≠ 79 by decide), up_ne (show (59 : Nat) ≠ 79 by decide), up_ne (show (78 : Nat) ≠ 79 by decide)]; omega)) (by first | omega | exact rg_tdiv (by omega) (by omega) | (simp only [up_app, Nat.reduceEqDiff, Int.reduceEq, and_self, true_and, and_true, false_and, and_false, if_true, if_false, reduceIte, hN65, hN13, up_ne (show (65 : Nat) ≠ 79 by decide), up_ne (show (59 : Nat) ≠ 79 by decide), up_ne (show (78 : Nat) ≠ 79 by decide)]; omega)) (fun r32 => ?_)
        try simp only [up_app, Nat.reduceEqDiff, Int.reduceEq, and_self, true_and, and_true, false_and, and_false, if_true, if_false, reduceIte, hN65, hN13, up_ne (show (65 : Nat) ≠ 79 by decide), up_ne (show (59 : Nat) ≠ 79 by decide), up_ne (show (78 : Nat) ≠ 79 by decide)] at r32 ⊢
        refine f_iconst hZ dX7_drifts_33 ?_
        refine f_iadd hZ dX7_drifts_34 ?_
        refine f_iastore hZ dX7_drifts_35 (by first | rfl | exact hC.t1 | exact hC.t2 | exact hC.t3 | exact hC.t4 | exact hC.t5) (by first | rfl | exact hC.l1 | exact hC.l2 | exact hC.l3 | exact hC.l4 | exact hC.l5) (by first | omega | exact rg_tdiv (by omega) (by omega) | (simp only [up_app, Nat.reduceEqDiff, Int.reduceEq, and_self, true_and, and_true, false_and, and_false, if_true, if_false, reduceIte, hN65, hN13, up_ne (show (65 : Nat) ≠ 79 by decide), up_ne (show (59 : Nat) ≠ 79 by decide), up_ne (show (78 : Nat) ≠ 79 by decide)]; omega)) (by first | omega | exact rg_tdiv (by omega) (by omega) | (simp only [up_app, Nat.reduceEqDiff, Int.reduceEq, and_self, true_and, and_true, false_and, and_false, if_true, if_false, reduceIte, hN65, hN13, up_ne (show (65 : Nat) ≠ 79 by decide), up_ne (show (59 : Nat) ≠ 79 by decide), up_ne (show (78 : Nat) ≠ 79 by decide)]; omega)) (by first | omega | exact rg_tdiv (by omega) (by omega) | (simp only [up_app, Nat.reduceEqDiff, Int.reduceEq, and_self, true_and, and_true, false_and, and_false, if_true, if_false, reduceIte, hN65, hN13, up_ne (show (65 : Nat) ≠ 79 by decide), up_ne (show (59 : Nat) ≠ 79 by decide), up_ne (show (78 : Nat) ≠ 79 by decide)]; omega)) ?_
        refine f_aload_n hZ dX7_drifts_36 rfl ?_
        refine gX7_69 hZ dX7_drifts_37 ?_
        refine f_iload hZ dX7_drifts_40 rfl ?_
        refine f_aload_n hZ dX7_drifts_42 rfl ?_
        refine gX7_69 hZ dX7_drifts_43 ?_
        refine f_iload hZ dX7_drifts_46 rfl ?_
        refine f_iaload hZ dX7_drifts_48 (by first | rfl | exact hC.t1 | exact hC.t2 | exact hC.t3 | exact hC.t4 | exact hC.t5) (by first | rfl | exact hC.l1 | exact hC.l2 | exact hC.l3 | exact hC.l4 | exact hC.l5) (by first | omega | exact rg_tdiv (by omega) (by omega) | (simp only [up_app, Nat.reduceEqDiff, Int.reduceEq, and_self, true_and, and_true, false_and, and_false, if_true, if_false, reduceIte, hN65, hN13, up_ne (show (65 : Nat) ≠ 79 by decide), up_ne (show (59 : Nat) ≠ 79 by decide), up_ne (show (78 : Nat) ≠ 79 by decide)]; omega)) (by first | omega | exact rg_tdiv (by omega) (by omega) | (simp only [up_app, Nat.reduceEqDiff, Int.reduceEq, and_self, true_and, and_true, false_and, and_false, if_true, if_false, reduceIte, hN65, hN13, up_ne (show (65 : Nat) ≠ 79 by decide), up_ne (show (59 : Nat) ≠ 79 by decide), up_ne (show (78 : Nat) ≠ 79 by decide)]; omega)) (fun r48 => ?_)
        try simp only [up_app, Nat.reduceEqDiff, Int.reduceEq, and_self, true_and, and_true, false_and, and_false, if_true, if_false, reduceIte, hN65, hN13, up_ne (show (65 : Nat) ≠ 79 by decide), up_ne (show (59 : Nat) ≠ 79 by decide), up_ne (show (78 : Nat) ≠ 79 by decide)] at r48 ⊢
        refine f_aload_n hZ dX7_drifts_49 rfl ?_
        refine f_iconst hZ dX7_drifts_50 ?_
        refine f_aload_n hZ dX7_drifts_51 rfl ?_
        refine gX7_29 hZ dX7_drifts_52 ?_
        refine f_iload_n hZ dX7_drifts_55 rfl ?_
        refine f_iaload hZ dX7_drifts_56 (by first | rfl | exact hC.t1 | exact hC.t2 | exact hC.t3 | exact hC.t4 | exact hC.t5) (by first | rfl | exact hC.l1 | exact hC.l2 | exact hC.l3 | exact hC.l4 | exact hC.l5) (by first | omega | exact rg_tdiv (by omega) (by omega) | (simp only [up_app, Nat.reduceEqDiff, Int.reduceEq, and_self, true_and, and_true, false_and, and_false, if_true, if_false, reduceIte, hN65, hN13, up_ne (show (65 : Nat) ≠ 79 by decide), up_ne (show (59 : Nat) ≠ 79 by decide), up_ne (show (78 : Nat) ≠ 79 by decide)]; omega)) (by first | omega | exact rg_tdiv (by omega) (by omega) | (simp only [up_app, Nat.reduceEqDiff, Int.reduceEq, and_self, true_and, and_true, false_and, and_false, if_true, if_false, reduceIte, hN65, hN13, up_ne (show (65 : Nat) ≠ 79 by decide), up_ne (show (59 : Nat) ≠ 79 by decide), up_ne (show (78 : Nat) ≠ 79 by decide)]; omega)) (fun r56 => ?_)
        try simp only [up_app, Nat.reduceEqDiff, Int.reduceEq, and_self, true_and, and_true, false_and, and_false, if_true, if_false, reduceIte, hN65, hN13, up_ne (show (65 : Nat) ≠ 79 by decide), up_ne (show (59 : Nat) ≠ 79 by decide), up_ne (show (78 : Nat) ≠ 79 by decide)] at r56 ⊢
        refine f_iconst hZ dX7_drifts_57 ?_
        refine f_iconst hZ dX7_drifts_58 ?_
        refine f_iload hZ dX7_drifts_59 rfl ?_
        refine f_aload_n hZ dX7_drifts_61 rfl ?_
        refine gX7_72 hZ dX7_drifts_62 ?_
        refine f_iload hZ dX7_drifts_65 rfl ?_
        refine f_iaload hZ dX7_drifts_67 (by first | rfl | exact hC.t1 | exact hC.t2 | exact hC.t3 | exact hC.t4 | exact hC.t5) (by first | rfl | exact hC.l1 | exact hC.l2 | exact hC.l3 | exact hC.l4 | exact hC.l5) (by first | omega | exact rg_tdiv (by omega) (by omega) | (simp only [up_app, Nat.reduceEqDiff, Int.reduceEq, and_self, true_and, and_true, false_and, and_false, if_true, if_false, reduceIte, hN65, hN13, up_ne (show (65 : Nat) ≠ 79 by decide), up_ne (show (59 : Nat) ≠ 79 by decide), up_ne (show (78 : Nat) ≠ 79 by decide)]; omega)) (by first | omega | exact rg_tdiv (by omega) (by omega) | (simp only [up_app, Nat.reduceEqDiff, Int.reduceEq, and_self, true_and, and_true, false_and, and_false, if_true, if_false, reduceIte, hN65, hN13, up_ne (show (65 : Nat) ≠ 79 by decide), up_ne (show (59 : Nat) ≠ 79 by decide), up_ne (show (78 : Nat) ≠ 79 by decide)]; omega)) (fun r67 => ?_)
        try simp only [up_app, Nat.reduceEqDiff, Int.reduceEq, and_self, true_and, and_true, false_and, and_false, if_true, if_false, reduceIte, hN65, hN13, up_ne (show (65 : Nat) ≠ 79 by decide), up_ne (show (59 : Nat) ≠ 79 by decide), up_ne (show (78 : Nat) ≠ 79 by decide)] at r67 ⊢
        refine vX7_308 hZ dX7_drifts_68 ((t_saysW (d := e + 0) (M := M) hG (by rw [up_ne (by decide)]; exact hN13) (by rw [up_ne (by decide)]; exact hN.1.2 4 (by omega)) (by rw [up_ne (by decide)]; exact hN.1.1 60 (by decide) (by decide) (by decide)) (by rw [up_ne (by decide)]; exact hN.1.1 61 (by decide) (by decide) (by decide)) (k := 2) (by omega) (by omega) (by omega) (by omega) (by omega) (by omega)).dep (by omega)) (fun a68 M68 r68 h68 => ?_)
        have e68 : a68 = dfM M W w k ((drS b (dfM M W w) (M 79) (M 78) (k - 1).toNat).1 t6 + 1) := by rw [h68.2, ← hn79]; rfl
        have hdf := dfM_rg (M := M) (W := W) (w := w) (k := k) (x := (drS b (dfM M W w) (M 79) (M 78) (k - 1).toNat).1 t6 + 1)
        have k78 : M68 78 = N 78 := by rw [h68.1.1 78 (by decide), up_ne (by decide)]
        refine f_iadd hZ dX7_drifts_71 ?_
        refine f_iastore hZ dX7_drifts_72 (by first | rfl | exact hC.t1 | exact hC.t2 | exact hC.t3 | exact hC.t4 | exact hC.t5) (by first | rfl | exact hC.l1 | exact hC.l2 | exact hC.l3 | exact hC.l4 | exact hC.l5) (by first | omega | exact rg_tdiv (by omega) (by omega) | (simp only [up_app, Nat.reduceEqDiff, Int.reduceEq, and_self, true_and, and_true, false_and, and_false, if_true, if_false, reduceIte, hN65, hN13, up_ne (show (65 : Nat) ≠ 79 by decide), up_ne (show (59 : Nat) ≠ 79 by decide), up_ne (show (78 : Nat) ≠ 79 by decide)]; omega)) (by first | omega | exact rg_tdiv (by omega) (by omega) | (simp only [up_app, Nat.reduceEqDiff, Int.reduceEq, and_self, true_and, and_true, false_and, and_false, if_true, if_false, reduceIte, hN65, hN13, up_ne (show (65 : Nat) ≠ 79 by decide), up_ne (show (59 : Nat) ≠ 79 by decide), up_ne (show (78 : Nat) ≠ 79 by decide)]; omega)) (by first | omega | exact rg_tdiv (by omega) (by omega) | (simp only [up_app, Nat.reduceEqDiff, Int.reduceEq, and_self, true_and, and_true, false_and, and_false, if_true, if_false, reduceIte, hN65, hN13, up_ne (show (65 : Nat) ≠ 79 by decide), up_ne (show (59 : Nat) ≠ 79 by decide), up_ne (show (78 : Nat) ≠ 79 by decide)]; omega)) ?_
        refine f_aload_n hZ dX7_drifts_73 rfl ?_
        refine gX7_69 hZ dX7_drifts_74 ?_
        refine f_iload hZ dX7_drifts_77 rfl ?_
        refine f_iaload hZ dX7_drifts_79 (by first | rfl | exact hC.t1 | exact hC.t2 | exact hC.t3 | exact hC.t4 | exact hC.t5) (by first | rfl | exact hC.l1 | exact hC.l2 | exact hC.l3 | exact hC.l4 | exact hC.l5) (by first | omega | exact rg_tdiv (by omega) (by omega) | (simp only [up_app, Nat.reduceEqDiff, Int.reduceEq, and_self, true_and, and_true, false_and, and_false, if_true, if_false, reduceIte, hN65, hN13, up_ne (show (65 : Nat) ≠ 79 by decide), up_ne (show (59 : Nat) ≠ 79 by decide), up_ne (show (78 : Nat) ≠ 79 by decide)]; omega)) (by first | omega | exact rg_tdiv (by omega) (by omega) | (simp only [up_app, Nat.reduceEqDiff, Int.reduceEq, and_self, true_and, and_true, false_and, and_false, if_true, if_false, reduceIte, hN65, hN13, up_ne (show (65 : Nat) ≠ 79 by decide), up_ne (show (59 : Nat) ≠ 79 by decide), up_ne (show (78 : Nat) ≠ 79 by decide)]; omega)) (fun r79 => ?_)
        try simp only [up_app, Nat.reduceEqDiff, Int.reduceEq, and_self, true_and, and_true, false_and, and_false, if_true, if_false, reduceIte, hN65, hN13, up_ne (show (65 : Nat) ≠ 79 by decide), up_ne (show (59 : Nat) ≠ 79 by decide), up_ne (show (78 : Nat) ≠ 79 by decide)] at r79 ⊢
        refine f_iload hZ dX7_drifts_80 rfl ?_
        refine f_ile (tgt := 95) hZ dX7_drifts_82 rfl (by first | omega | exact rg_tdiv (by omega) (by omega) | (simp only [up_app, Nat.reduceEqDiff, Int.reduceEq, and_self, true_and, and_true, false_and, and_false, if_true, if_false, reduceIte, hN65, hN13, up_ne (show (65 : Nat) ≠ 79 by decide), up_ne (show (59 : Nat) ≠ 79 by decide), up_ne (show (78 : Nat) ≠ 79 by decide)]; omega)) (by first | omega | exact rg_tdiv (by omega) (by omega) | (simp only [up_app, Nat.reduceEqDiff, Int.reduceEq, and_self, true_and, and_true, false_and, and_false, if_true, if_false, reduceIte, hN65, hN13, up_ne (show (65 : Nat) ≠ 79 by decide), up_ne (show (59 : Nat) ≠ 79 by decide), up_ne (show (78 : Nat) ≠ 79 by decide)]; omega)) (fun h82 => ?_) (fun h82 => ?_)
        · refine f_iload hZ dX7_drifts_95 rfl ?_
          refine f_istore (L' := [_, _, _, _, _, _, _]) hZ dX7_drifts_97 rfl rfl ?_
          refine f_iinc (L' := [_, _, _, _, _, _, _]) hZ dX7_drifts_99 rfl rfl ?_
          refine f_goto (tgt := 6) hZ dX7_drifts_102 rfl ?_
          refine f_forget (L' := [_, _, _, _, _, _, .null]) ⟨Or.inl rfl, Or.inl rfl, Or.inl rfl, Or.inl rfl, Or.inl rfl, Or.inl rfl, Or.inr rfl, trivial⟩ ?_
          have hh := ih (k + 1) (up M68 78 k (N 78 t6 + a68)) (by omega) (by omega) (drJ_step hN hk1 et6 h68.1 e68)
          rw [drS_m hk1 et6] at hh
          rw [Int.max_eq_left (by omega)] at hh
          exact hh
        · refine f_aload_n hZ dX7_drifts_85 rfl ?_
          refine gX7_69 hZ dX7_drifts_86 ?_
          refine f_iload hZ dX7_drifts_89 rfl ?_
          refine f_iaload hZ dX7_drifts_91 (by first | rfl | exact hC.t1 | exact hC.t2 | exact hC.t3 | exact hC.t4 | exact hC.t5) (by first | rfl | exact hC.l1 | exact hC.l2 | exact hC.l3 | exact hC.l4 | exact hC.l5) (by first | omega | exact rg_tdiv (by omega) (by omega) | (simp only [up_app, Nat.reduceEqDiff, Int.reduceEq, and_self, true_and, and_true, false_and, and_false, if_true, if_false, reduceIte, hN65, hN13, up_ne (show (65 : Nat) ≠ 79 by decide), up_ne (show (59 : Nat) ≠ 79 by decide), up_ne (show (78 : Nat) ≠ 79 by decide)]; omega)) (by first | omega | exact rg_tdiv (by omega) (by omega) | (simp only [up_app, Nat.reduceEqDiff, Int.reduceEq, and_self, true_and, and_true, false_and, and_false, if_true, if_false, reduceIte, hN65, hN13, up_ne (show (65 : Nat) ≠ 79 by decide), up_ne (show (59 : Nat) ≠ 79 by decide), up_ne (show (78 : Nat) ≠ 79 by decide)]; omega)) (fun r91 => ?_)
          try simp only [up_app, Nat.reduceEqDiff, Int.reduceEq, and_self, true_and, and_true, false_and, and_false, if_true, if_false, reduceIte, hN65, hN13, up_ne (show (65 : Nat) ≠ 79 by decide), up_ne (show (59 : Nat) ≠ 79 by decide), up_ne (show (78 : Nat) ≠ 79 by decide)] at r91 ⊢
          refine f_goto (tgt := 97) hZ dX7_drifts_92 rfl ?_
          refine f_istore (L' := [_, _, _, _, _, _, _]) hZ dX7_drifts_97 rfl rfl ?_
          refine f_iinc (L' := [_, _, _, _, _, _, _]) hZ dX7_drifts_99 rfl rfl ?_
          refine f_goto (tgt := 6) hZ dX7_drifts_102 rfl ?_
          refine f_forget (L' := [_, _, _, _, _, _, .null]) ⟨Or.inl rfl, Or.inl rfl, Or.inl rfl, Or.inl rfl, Or.inl rfl, Or.inl rfl, Or.inr rfl, trivial⟩ ?_
          have hh := ih (k + 1) (up M68 78 k (N 78 t6 + a68)) (by omega) (by omega) (drJ_step hN hk1 et6 h68.1 e68)
          rw [drS_m hk1 et6] at hh
          rw [Int.max_eq_right (by omega), ← hn78, ← e68] at hh
          exact hh
  refine f_iconst hZ dX7_drifts_0 ?_
  refine f_istore (L' := [_, _, _, _, _, _, _]) hZ dX7_drifts_1 rfl rfl ?_
  refine f_iconst hZ dX7_drifts_3 ?_
  refine f_istore (L' := [_, _, _, _, _, _, _]) hZ dX7_drifts_4 rfl rfl ?_
  have hh := loop n.toNat 1 M (by omega) (by omega) ⟨⟨fun _ _ _ _ => rfl, fun _ _ => rfl⟩, rfl, rfl⟩
  exact hh

set_option maxRecDepth 20000 in
set_option maxHeartbeats 4000000 in
theorem t_X7_copies {X : fX} {M : fM} {e : Nat} {W : Int → pV} {w n b : Int} (hw0 : rg w) (hn0 : rg n) (hb : rg b) (h78 : M 78 0 = 0) (h79 : M 79 0 = 0) (hW : WfM M) (hG : gokM M W) : fC X (e + 50) mX7_copies [.ref (xa X 59), .int (iv w), .int (iv n), .int (iv b)] M (QI fun r K => (¬ ((0 ≤ w ∧ w < M 59 12) ∧ (1 ≤ n ∧ n ≤ 12) ∧ (1 ≤ b ∧ b ≤ 4)) ∧ r = -2 ∧ K = M) ∨ (((0 ≤ w ∧ w < M 59 12) ∧ (1 ≤ n ∧ n ≤ 12) ∧ (1 ≤ b ∧ b ≤ 4)) ∧ drG M K ∧ r = drZ (dfM M W w) n b)) := by
  refine fC.of (L := [_, _, _, _]) (by decide +kernel) rfl (Nat.le_of_ble_eq_true rfl) (fun Z hZ hR => ?_)
  have hn := hW.1
  refine f_aload_n hZ dX7_copies_0 rfl ?_
  refine f_iload_n hZ dX7_copies_1 rfl ?_
  refine vX7_123 hZ dX7_copies_2 (t_X7_isWick (by omega) hn) (fun a2 M2 r2 h2 => ?_)
  obtain ⟨e2, h2⟩ := h2
  replace e2 := e2.symm
  subst e2
  refine f_eq (tgt := 42) hZ dX7_copies_5 rfl (by first | omega | (have := drZ_rg (f := dfM M W w) (n := n) (b := b) (by omega) (fun _ _ => dfM_rg) (by omega); omega)) (fun h5 => ?_) (fun h5 => ?_)
  · refine f_bipush hZ dX7_copies_42 ?_
    exact f_retI hZ hR dX7_copies_44 rfl (by first | omega | (have := drZ_rg (f := dfM M W w) (n := n) (b := b) (by omega) (fun _ _ => dfM_rg) (by omega); omega)) (by first | exact Or.inl ⟨fun q => by omega, rfl, rfl⟩ | exact Or.inr ⟨⟨by omega, by omega, by omega⟩, h36⟩)
  · refine f_iload_n hZ dX7_copies_8 rfl ?_
    refine f_i2l hZ dX7_copies_9 (by first | omega | (have := drZ_rg (f := dfM M W w) (n := n) (b := b) (by omega) (fun _ _ => dfM_rg) (by omega); omega)) ?_
    refine f_lconst1 hZ dX7_copies_10 ?_
    refine f_ldc2 (v := (12 : Int64)) hZ (12) dX7_copies_11 (tb_in 1149 (by decide +kernel) (by decide +kernel)) (by decide) ?_
    refine sX7_113 hZ dX7_copies_14 (t_X7_in (by omega) (by omega) (by omega)) (fun a14 M14 r14 h14 => ?_)
    obtain ⟨e14, h14⟩ := h14
    replace e14 := e14.symm
    subst e14
    refine f_eq (tgt := 42) hZ dX7_copies_17 rfl (by first | omega | (have := drZ_rg (f := dfM M W w) (n := n) (b := b) (by omega) (fun _ _ => dfM_rg) (by omega); omega)) (fun h17 => ?_) (fun h17 => ?_)
    · refine f_bipush hZ dX7_copies_42 ?_
      exact f_retI hZ hR dX7_copies_44 rfl (by first | omega | (have := drZ_rg (f := dfM M W w) (n := n) (b := b) (by omega) (fun _ _ => dfM_rg) (by omega); omega)) (by first | exact Or.inl ⟨fun q => by omega, rfl, rfl⟩ | exact Or.inr ⟨⟨by omega, by omega, by omega⟩, h36⟩)
    · refine f_iload_n hZ dX7_copies_20 rfl ?_
      refine f_i2l hZ dX7_copies_21 (by first | omega | (have := drZ_rg (f := dfM M W w) (n := n) (b := b) (by omega) (fun _ _ => dfM_rg) (by omega); omega)) ?_
      refine f_lconst1 hZ dX7_copies_22 ?_
      refine f_ldc2 (v := (4 : Int64)) hZ (4) dX7_copies_23 (tb_in 1209 (by decide +kernel) (by decide +kernel)) (by decide) ?_
      refine sX7_113 hZ dX7_copies_26 (t_X7_in (by omega) (by omega) (by omega)) (fun a26 M26 r26 h26 => ?_)
      obtain ⟨e26, h26⟩ := h26
      replace e26 := e26.symm
      subst e26
      refine f_eq (tgt := 42) hZ dX7_copies_29 rfl (by first | omega | (have := drZ_rg (f := dfM M W w) (n := n) (b := b) (by omega) (fun _ _ => dfM_rg) (by omega); omega)) (fun h29 => ?_) (fun h29 => ?_)
      · refine f_bipush hZ dX7_copies_42 ?_
        exact f_retI hZ hR dX7_copies_44 rfl (by first | omega | (have := drZ_rg (f := dfM M W w) (n := n) (b := b) (by omega) (fun _ _ => dfM_rg) (by omega); omega)) (by first | exact Or.inl ⟨fun q => by omega, rfl, rfl⟩ | exact Or.inr ⟨⟨by omega, by omega, by omega⟩, h36⟩)
      · refine f_aload_n hZ dX7_copies_32 rfl ?_
        refine f_iload_n hZ dX7_copies_33 rfl ?_
        refine f_iload_n hZ dX7_copies_34 rfl ?_
        refine f_iload_n hZ dX7_copies_35 rfl ?_
        refine vX7_340 hZ dX7_copies_36 (t_X7_drifts (W := W) (by omega) (by omega) (by omega) h78 h79 hW hG) (fun a36 M36 r36 h36 => ?_)
        refine f_goto (tgt := 44) hZ dX7_copies_39 rfl ?_
        exact f_retI hZ hR dX7_copies_44 rfl (by first | omega | (have := drZ_rg (f := dfM M W w) (n := n) (b := b) (by omega) (fun _ _ => dfM_rg) (by omega); omega)) (by first | exact Or.inl ⟨fun q => by omega, rfl, rfl⟩ | exact Or.inr ⟨⟨by omega, by omega, by omega⟩, h36⟩)

set_option maxRecDepth 20000 in
set_option maxHeartbeats 4000000 in
theorem t_X7_best {X : fX} {M : fM} {e : Nat} {W : Int → pV} {w n q : Int} (hw0 : rg w) (hn0 : rg n) (hq : rg q) (h78 : M 78 0 = 0) (h79 : M 79 0 = 0) (hW : WfM M) (hG : gokM M W) : fC X (e + 50) mX7_best [.ref (xa X 59), .int (iv w), .int (iv n), .int (iv q)] M (QI fun r K => (¬ ((0 ≤ w ∧ w < M 59 12) ∧ (1 ≤ n ∧ n ≤ 12) ∧ (0 ≤ q ∧ q ≤ 1)) ∧ r = -2 ∧ K = M) ∨ (((0 ≤ w ∧ w < M 59 12) ∧ (1 ≤ n ∧ n ≤ 12) ∧ (0 ≤ q ∧ q ≤ 1)) ∧ drG M K ∧ r = if q = 0 then (bsN (drZ (dfM M W w) n) 3).1 else (bsN (drZ (dfM M W w) n) 3).2)) := by
  refine fC.of (L := [_, _, _, _, _, _, _, _]) (by decide +kernel) rfl (Nat.le_of_ble_eq_true rfl) (fun Z hZ hR => ?_)
  have hn := hW.1
  refine f_aload_n hZ dX7_best_0 rfl ?_
  refine f_iload_n hZ dX7_best_1 rfl ?_
  refine vX7_123 hZ dX7_best_2 (t_X7_isWick (by omega) hn) (fun a2 M2 r2 h2 => ?_)
  obtain ⟨e2, h2⟩ := h2
  replace e2 := e2.symm
  subst e2
  refine f_eq (tgt := 30) hZ dX7_best_5 rfl (by omega) (fun h5 => ?_) (fun h5 => ?_)
  · refine f_bipush hZ dX7_best_30 ?_
    exact f_retI hZ hR dX7_best_32 rfl (by omega) (by first | exact Or.inl ⟨fun z => by omega, rfl, rfl⟩ | (refine Or.inr ⟨⟨by omega, by omega, by omega⟩, hN, ?_⟩; rw [show b = 5 by omega]; first | (rw [if_pos (by omega)]; rfl) | (rw [if_neg (by omega)]; rfl)))
  · refine f_iload_n hZ dX7_best_8 rfl ?_
    refine f_i2l hZ dX7_best_9 (by omega) ?_
    refine f_lconst1 hZ dX7_best_10 ?_
    refine f_ldc2 (v := (12 : Int64)) hZ (12) dX7_best_11 (tb_in 1149 (by decide +kernel) (by decide +kernel)) (by decide) ?_
    refine sX7_113 hZ dX7_best_14 (t_X7_in (by omega) (by omega) (by omega)) (fun a14 M14 r14 h14 => ?_)
    obtain ⟨e14, h14⟩ := h14
    replace e14 := e14.symm
    subst e14
    refine f_eq (tgt := 30) hZ dX7_best_17 rfl (by omega) (fun h17 => ?_) (fun h17 => ?_)
    · refine f_bipush hZ dX7_best_30 ?_
      exact f_retI hZ hR dX7_best_32 rfl (by omega) (by first | exact Or.inl ⟨fun z => by omega, rfl, rfl⟩ | (refine Or.inr ⟨⟨by omega, by omega, by omega⟩, hN, ?_⟩; rw [show b = 5 by omega]; first | (rw [if_pos (by omega)]; rfl) | (rw [if_neg (by omega)]; rfl)))
    · refine f_iload_n hZ dX7_best_20 rfl ?_
      refine f_i2l hZ dX7_best_21 (by omega) ?_
      refine f_lconst0 hZ dX7_best_22 ?_
      refine f_lconst1 hZ dX7_best_23 ?_
      refine sX7_113 hZ dX7_best_24 (t_X7_in (by omega) (by omega) (by omega)) (fun a24 M24 r24 h24 => ?_)
      obtain ⟨e24, h24⟩ := h24
      replace e24 := e24.symm
      subst e24
      refine f_ne (tgt := 33) hZ dX7_best_27 rfl (by omega) (fun h27 => ?_) (fun h27 => ?_)
      · have hF : ∀ b, 1 ≤ b → b ≤ 4 → 0 ≤ drZ (dfM M W w) n b ∧ drZ (dfM M W w) n b ≤ 1188 := fun b b1 b4 => drZ_rg b1 (fun _ _ => dfM_rg) (by omega)
        refine f_iconst hZ dX7_best_33 ?_
        refine f_istore (L' := [_, _, _, _, _, _, _, _]) hZ dX7_best_34 rfl rfl ?_
        refine f_iconst hZ dX7_best_36 ?_
        refine f_istore (L' := [_, _, _, _, _, _, _, _]) hZ dX7_best_37 rfl rfl ?_
        refine f_iconst hZ dX7_best_39 ?_
        refine f_istore (L' := [_, _, _, _, _, _, _, _]) hZ dX7_best_40 rfl rfl ?_
        have loop : ∀ (m : Nat) (b : Int) (N : fM), 2 ≤ b → b + m = 5 → drG M N → fG X mX7_best Z 42 [.ref (xa X 59), .int (iv w), .int (iv n), .int (iv q), .int (iv (bsN (drZ (dfM M W w) n) (b - 2).toNat).1), .int (iv (bsN (drZ (dfM M W w) n) (b - 2).toNat).2), .int (iv b), .null] [] N := by
          intro m
          induction m with
          | zero =>
            intro b N hb2 hbm hN
            have hbs := bsN_rg hF (b - 2).toNat (by omega)
            refine f_iload hZ dX7_best_42 rfl ?_
            refine f_iconst hZ dX7_best_44 ?_
            refine f_ige (tgt := 85) hZ dX7_best_45 rfl (by omega) (by omega) (fun h45 => ?_) (fun h45 => ?_)
            · refine f_iload_n hZ dX7_best_85 rfl ?_
              refine f_ne (tgt := 94) hZ dX7_best_86 rfl (by omega) (fun h86 => ?_) (fun h86 => ?_)
              · refine f_iload hZ dX7_best_94 rfl ?_
                exact f_retI hZ hR dX7_best_96 rfl (by omega) (by first | exact Or.inl ⟨fun z => by omega, rfl, rfl⟩ | (refine Or.inr ⟨⟨by omega, by omega, by omega⟩, hN, ?_⟩; rw [show b = 5 by omega]; first | (rw [if_pos (by omega)]; rfl) | (rw [if_neg (by omega)]; rfl)))
              · refine f_iload hZ dX7_best_89 rfl ?_
                refine f_goto (tgt := 96) hZ dX7_best_91 rfl ?_
                exact f_retI hZ hR dX7_best_96 rfl (by omega) (by first | exact Or.inl ⟨fun z => by omega, rfl, rfl⟩ | (refine Or.inr ⟨⟨by omega, by omega, by omega⟩, hN, ?_⟩; rw [show b = 5 by omega]; first | (rw [if_pos (by omega)]; rfl) | (rw [if_neg (by omega)]; rfl)))
            · exfalso; omega
          | succ m ih =>
            intro b N hb2 hbm hN
            have hbs := bsN_rg hF (b - 2).toNat (by omega)
            refine f_iload hZ dX7_best_42 rfl ?_
            refine f_iconst hZ dX7_best_44 ?_
            refine f_ige (tgt := 85) hZ dX7_best_45 rfl (by omega) (by omega) (fun h45 => ?_) (fun h45 => ?_)
            · exfalso; omega
            · refine f_aload_n hZ dX7_best_48 rfl ?_
              refine f_iload_n hZ dX7_best_49 rfl ?_
              refine f_iload_n hZ dX7_best_50 rfl ?_
              refine f_iload hZ dX7_best_51 rfl ?_
              refine vX7_340 hZ dX7_best_53 (t_X7_drifts (W := W) (by rw [hN.1.2 12 (by omega)]; omega) (by omega) (by omega) hN.2.1 hN.2.2 (drG_gok hN hW hG).1 (drG_gok hN hW hG).2) (fun a53 M53 r53 h53 => ?_)
              obtain ⟨h53, e53⟩ := h53
              rw [dfM_eq (hN.1.2 13 (by omega)) (hN.1.1 65 (by decide) (by decide) (by decide))] at e53
              have hF1 := hF b (by omega) (by omega)
              refine f_istore (L' := [_, _, _, _, _, _, _, _]) hZ dX7_best_56 rfl rfl ?_
              refine f_iload hZ dX7_best_58 rfl ?_
              refine f_iconst hZ dX7_best_60 ?_
              refine f_ieq (tgt := 71) hZ dX7_best_61 rfl (by omega) (by omega) (fun h61 => ?_) (fun h61 => ?_)
              · exfalso; omega
              · refine f_iload hZ dX7_best_64 rfl ?_
                refine f_iload hZ dX7_best_66 rfl ?_
                refine f_ige (tgt := 79) hZ dX7_best_68 rfl (by omega) (by omega) (fun h68 => ?_) (fun h68 => ?_)
                · refine f_iinc (L' := [_, _, _, _, _, _, _, _]) hZ dX7_best_79 rfl rfl ?_
                  refine f_goto (tgt := 42) hZ dX7_best_82 rfl ?_
                  refine f_forget (L' := [_, _, _, _, _, _, _, .null]) ⟨Or.inl rfl, Or.inl rfl, Or.inl rfl, Or.inl rfl, Or.inl rfl, Or.inl rfl, Or.inl rfl, Or.inr rfl, trivial⟩ ?_
                  have hh := ih (b + 1) M53 (by omega) (by omega) (hN.trans h53)
                  rw [bsN_s hb2] at hh
                  first | (rw [if_pos (by omega)] at hh; rw [e53]; exact hh) | (rw [if_neg (by omega)] at hh; exact hh)
                · refine f_iload hZ dX7_best_71 rfl ?_
                  refine f_istore (L' := [_, _, _, _, _, _, _, _]) hZ dX7_best_73 rfl rfl ?_
                  refine f_iload hZ dX7_best_75 rfl ?_
                  refine f_istore (L' := [_, _, _, _, _, _, _, _]) hZ dX7_best_77 rfl rfl ?_
                  refine f_iinc (L' := [_, _, _, _, _, _, _, _]) hZ dX7_best_79 rfl rfl ?_
                  refine f_goto (tgt := 42) hZ dX7_best_82 rfl ?_
                  refine f_forget (L' := [_, _, _, _, _, _, _, .null]) ⟨Or.inl rfl, Or.inl rfl, Or.inl rfl, Or.inl rfl, Or.inl rfl, Or.inl rfl, Or.inl rfl, Or.inr rfl, trivial⟩ ?_
                  have hh := ih (b + 1) M53 (by omega) (by omega) (hN.trans h53)
                  rw [bsN_s hb2] at hh
                  first | (rw [if_pos (by omega)] at hh; rw [e53]; exact hh) | (rw [if_neg (by omega)] at hh; exact hh)
        refine f_iload hZ dX7_best_42 rfl ?_
        refine f_iconst hZ dX7_best_44 ?_
        refine f_ige (tgt := 85) hZ dX7_best_45 rfl (by omega) (by omega) (fun h45 => ?_) (fun h45 => ?_)
        · exfalso; omega
        · refine f_aload_n hZ dX7_best_48 rfl ?_
          refine f_iload_n hZ dX7_best_49 rfl ?_
          refine f_iload_n hZ dX7_best_50 rfl ?_
          refine f_iload hZ dX7_best_51 rfl ?_
          refine vX7_340 hZ dX7_best_53 (t_X7_drifts (W := W) (by omega) (by omega) (by omega) h78 h79 hW hG) (fun a53 M53 r53 h53 => ?_)
          obtain ⟨h53, e53⟩ := h53
          have hF1 := hF 1 (by omega) (by omega)
          refine f_istore (L' := [_, _, _, _, _, _, _, _]) hZ dX7_best_56 rfl rfl ?_
          refine f_iload hZ dX7_best_58 rfl ?_
          refine f_iconst hZ dX7_best_60 ?_
          refine f_ieq (tgt := 71) hZ dX7_best_61 rfl (by omega) (by omega) (fun h61 => ?_) (fun h61 => ?_)
          · refine f_iload hZ dX7_best_71 rfl ?_
            refine f_istore (L' := [_, _, _, _, _, _, _, _]) hZ dX7_best_73 rfl rfl ?_
            refine f_iload hZ dX7_best_75 rfl ?_
            refine f_istore (L' := [_, _, _, _, _, _, _, _]) hZ dX7_best_77 rfl rfl ?_
            refine f_iinc (L' := [_, _, _, _, _, _, _, _]) hZ dX7_best_79 rfl rfl ?_
            refine f_goto (tgt := 42) hZ dX7_best_82 rfl ?_
            refine f_forget (L' := [_, _, _, _, _, _, _, .null]) ⟨Or.inl rfl, Or.inl rfl, Or.inl rfl, Or.inl rfl, Or.inl rfl, Or.inl rfl, Or.inl rfl, Or.inr rfl, trivial⟩ ?_
            rw [e53]
            exact loop 3 2 M53 (by omega) (by omega) h53
          · exfalso; omega
      · refine f_bipush hZ dX7_best_30 ?_
        exact f_retI hZ hR dX7_best_32 rfl (by omega) (by first | exact Or.inl ⟨fun z => by omega, rfl, rfl⟩ | (refine Or.inr ⟨⟨by omega, by omega, by omega⟩, hN, ?_⟩; rw [show b = 5 by omega]; first | (rw [if_pos (by omega)]; rfl) | (rw [if_neg (by omega)]; rfl)))

