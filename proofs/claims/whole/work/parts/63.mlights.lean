/-! the model's costOf, lights -/
def coP (M K : fM) : Prop := (∀ c, c ≠ 59 → c ≠ 77 → K c = M c) ∧ ∀ k, (k < 15 ∨ 29 < k) → K 59 k = M 59 k
theorem cm_set {M K : fM} {v : pV} {w l p t r : Int} (hs : cmI M v) (hK : sY M K) (hl : 0 ≤ l ∧ l < 2) (hp : 0 ≤ p ∧ p < 100) (ht : 0 ≤ t ∧ t < 402) (hr : r = mprZ M v w l p t) : coP M (up K 77 (cix w l p t) r) ∧ cmI (up K 77 (cix w l p t) r) v := by
  have hf : ∀ k, (k < 15 ∨ 29 < k) → up K 77 (cix w l p t) r 59 k = M 59 k := fun k hk => by rw [up_ne (by decide)]; exact hK.2 k hk
  have hc : ∀ c, c ≠ 59 → c ≠ 77 → up K 77 (cix w l p t) r c = M c := fun c a b => by rw [up_ne b]; exact hK.1 c a
  refine ⟨⟨hc, hf⟩, ?_⟩
  unfold cmI
  rw [mprZ_eq (hf 13 (by omega)) (hc 65 (by decide) (by decide)) (hc 67 (by decide) (by decide)), hf 42 (by omega)]
  rcases hs with hs | hs
  · exact Or.inl hs
  · refine Or.inr (fun w' l' p' t' a b c1 d e => ?_)
    rw [up_app]
    by_cases h : cix w' l' p' t' = cix w l p t
    · rw [if_pos ⟨rfl, h⟩]
      obtain ⟨e1, e2, e3, e4⟩ := cix_inj c1 d e hl hp ht h
      rw [e1, e2, e3, e4]
      exact Or.inr hr
    · rw [if_neg (fun z => h z.2), hK.1 77 (by decide)]
      exact hs w' l' p' t' a b c1 d e
theorem f_eqv {X : fX} {y : fY} {Z : fZ} {pc : Nat} {L st : List Value} {M : fM} {a a' : Int} (h : a = a') (k : fG X y Z pc L (.int (iv a') :: st) M) : fG X y Z pc L (.int (iv a) :: st) M := by rw [h]; exact k
set_option maxRecDepth 20000 in
set_option maxHeartbeats 4000000 in
theorem t_X7_costOf {X : fX} {M : fM} {d : Nat} {W : Int → pV} {w l p t : Int} (hs : lvStat M W) (hask : M 59 42 ≠ 0) (hw : 0 ≤ w ∧ w < M 59 12) (hl : 0 ≤ l ∧ l < 2) (hp : 0 ≤ p ∧ p ≤ M 65 w) (ht : 0 ≤ t ∧ t < 402) : fC X (d + 49) mX7_costOf [.ref (xa X 59), .int (iv w), .int (iv l), .int (iv p), .int (iv t)] M (QI fun r K => coP M K ∧ cmI K (W 0) ∧ r = mprZ M (W 0) w l p t) := by
  obtain ⟨s1, ⟨s20, B, n, s21, s22⟩, s3, s4, s5, s6⟩ := hs
  have h4 := s1.1
  have hA := s1.2.2.2 w hw.1 hw.2
  have hP := hA.2.2.1
  have hBu := hA.2.2.2.2.1
  clear hA
  refine fC.of (L := [_, _, _, _, _, _]) (by decide +kernel) rfl (Nat.le_of_ble_eq_true rfl) (fun Z hZ hR => ?_)
  refine f_iload_n hZ dX7_costOf_0 rfl ?_
  refine f_iconst hZ dX7_costOf_1 ?_
  refine f_imul hZ dX7_costOf_2 ?_
  refine f_iload_n hZ dX7_costOf_3 rfl ?_
  refine f_iadd hZ dX7_costOf_4 ?_
  refine f_bipush hZ dX7_costOf_5 ?_
  refine f_imul hZ dX7_costOf_7 ?_
  refine f_iload_n hZ dX7_costOf_8 rfl ?_
  refine f_iadd hZ dX7_costOf_9 ?_
  refine f_sipush hZ dX7_costOf_10 ?_
  refine f_imul hZ dX7_costOf_13 ?_
  refine f_iload hZ dX7_costOf_14 rfl ?_
  refine f_iadd hZ dX7_costOf_16 ?_
  refine f_istore (L' := [_, _, _, _, _, _]) hZ dX7_costOf_17 rfl rfl ?_
  refine f_aload_n hZ dX7_costOf_19 rfl ?_
  refine gX7_66 hZ dX7_costOf_20 ?_
  refine f_iload hZ dX7_costOf_23 rfl ?_
  refine f_iaload hZ dX7_costOf_25 (by first | rfl | exact hC.t1 | exact hC.t2 | exact hC.t3 | exact hC.t4 | exact hC.t5) (by first | rfl | exact hC.l1 | exact hC.l2 | exact hC.l3 | exact hC.l4 | exact hC.l5) (by first | omega | (simp only [up_app, Nat.reduceEqDiff, Int.reduceEq, and_true, true_and, and_self, and_false, false_and, if_true, if_false, reduceIte]; omega)) (by first | omega | (simp only [up_app, Nat.reduceEqDiff, Int.reduceEq, and_true, true_and, and_self, and_false, false_and, if_true, if_false, reduceIte]; omega)) (fun r25 => ?_)
  refine f_iconst hZ dX7_costOf_26 ?_
  refine f_ine (tgt := 69) hZ dX7_costOf_27 rfl (by first | omega | (simp only [up_app, Nat.reduceEqDiff, Int.reduceEq, and_true, true_and, and_self, and_false, false_and, if_true, if_false, reduceIte]; omega)) (by first | omega | (simp only [up_app, Nat.reduceEqDiff, Int.reduceEq, and_true, true_and, and_self, and_false, false_and, if_true, if_false, reduceIte]; omega)) (fun h27 => ?_) (fun h27 => ?_)
  · refine f_aload_n hZ dX7_costOf_69 rfl ?_
    refine gX7_66 hZ dX7_costOf_70 ?_
    refine f_iload hZ dX7_costOf_73 rfl ?_
    refine f_iaload hZ dX7_costOf_75 (by first | rfl | exact hC.t1 | exact hC.t2 | exact hC.t3 | exact hC.t4 | exact hC.t5) (by first | rfl | exact hC.l1 | exact hC.l2 | exact hC.l3 | exact hC.l4 | exact hC.l5) (by first | omega | (simp only [up_app, Nat.reduceEqDiff, Int.reduceEq, and_true, true_and, and_self, and_false, false_and, if_true, if_false, reduceIte]; omega)) (by first | omega | (simp only [up_app, Nat.reduceEqDiff, Int.reduceEq, and_true, true_and, and_self, and_false, false_and, if_true, if_false, reduceIte]; omega)) (fun r75 => ?_)
    exact f_retI hZ hR dX7_costOf_76 rfl (by first | omega | (simp only [up_app, Nat.reduceEqDiff, Int.reduceEq, and_true, true_and, and_self, and_false, false_and, if_true, if_false, reduceIte]; omega)) (by first | exact ⟨hset.1, hset.2, v65⟩ | (refine ⟨⟨fun _ _ _ => rfl, fun _ _ => rfl⟩, s6, ?_⟩; rcases s6 with z | z; exact absurd z hask; have z := z w l p t hw.1 (by omega) hl (by omega) ht; unfold cix at z; omega))
  · refine f_aload_n hZ dX7_costOf_30 rfl ?_
    refine gX7_66 hZ dX7_costOf_31 ?_
    refine f_iload hZ dX7_costOf_34 rfl ?_
    refine f_aload_n hZ dX7_costOf_36 rfl ?_
    refine f_iconst hZ dX7_costOf_37 ?_
    refine f_iload_n hZ dX7_costOf_38 rfl ?_
    refine f_iload_n hZ dX7_costOf_39 rfl ?_
    refine f_aload_n hZ dX7_costOf_40 rfl ?_
    refine gX7_35 hZ dX7_costOf_41 ?_
    refine f_iload_n hZ dX7_costOf_44 rfl ?_
    refine f_iaload hZ dX7_costOf_45 (by first | rfl | exact hC.t1 | exact hC.t2 | exact hC.t3 | exact hC.t4 | exact hC.t5) (by first | rfl | exact hC.l1 | exact hC.l2 | exact hC.l3 | exact hC.l4 | exact hC.l5) (by first | omega | (simp only [up_app, Nat.reduceEqDiff, Int.reduceEq, and_true, true_and, and_self, and_false, false_and, if_true, if_false, reduceIte]; omega)) (by first | omega | (simp only [up_app, Nat.reduceEqDiff, Int.reduceEq, and_true, true_and, and_self, and_false, false_and, if_true, if_false, reduceIte]; omega)) (fun r45 => ?_)
    refine f_aload_n hZ dX7_costOf_46 rfl ?_
    refine gX7_29 hZ dX7_costOf_47 ?_
    refine f_iload_n hZ dX7_costOf_50 rfl ?_
    refine f_iaload hZ dX7_costOf_51 (by first | rfl | exact hC.t1 | exact hC.t2 | exact hC.t3 | exact hC.t4 | exact hC.t5) (by first | rfl | exact hC.l1 | exact hC.l2 | exact hC.l3 | exact hC.l4 | exact hC.l5) (by first | omega | (simp only [up_app, Nat.reduceEqDiff, Int.reduceEq, and_true, true_and, and_self, and_false, false_and, if_true, if_false, reduceIte]; omega)) (by first | omega | (simp only [up_app, Nat.reduceEqDiff, Int.reduceEq, and_true, true_and, and_self, and_false, false_and, if_true, if_false, reduceIte]; omega)) (fun r51 => ?_)
    refine f_iadd hZ dX7_costOf_52 ?_
    refine f_iload_n hZ dX7_costOf_53 rfl ?_
    refine f_isub hZ dX7_costOf_54 ?_
    refine f_iconst hZ dX7_costOf_55 ?_
    refine f_sipush hZ dX7_costOf_56 ?_
    refine sX7_272 hZ dX7_costOf_59 (t_X7_within (by omega) (by omega) (by omega)) (fun a59 M59 r59 h59 => ?_)
    obtain ⟨e59, h59⟩ := h59
    replace e59 := e59.symm
    subst e59
    have b59 : a59 = min 999 (M 67 w + M 65 w - p) := by omega
    clear h59
    refine f_iload_n hZ dX7_costOf_62 rfl ?_
    refine f_iload hZ dX7_costOf_63 rfl ?_
    refine vX7_308 hZ dX7_costOf_65 (t_X7_says (k := 0) (B := B) (n := n) (by omega) s20 s21 (by omega) (by omega) (by omega) (by omega) (by omega)) (fun a65 M65 r65 h65 => ?_)
    obtain ⟨y65, v65⟩ := h65
    have v65 : a65 = mprZ M (W 0) w l p t := by
      rw [v65, s22 0 (by decide) (by decide), b59]; rfl
    have hset := cm_set s6 y65 hl (by omega) ht v65
    refine f_iastore hZ dX7_costOf_68 (by first | rfl | exact hC.t1 | exact hC.t2 | exact hC.t3 | exact hC.t4 | exact hC.t5) (by first | rfl | exact hC.l1 | exact hC.l2 | exact hC.l3 | exact hC.l4 | exact hC.l5) (by first | omega | (simp only [up_app, Nat.reduceEqDiff, Int.reduceEq, and_true, true_and, and_self, and_false, false_and, if_true, if_false, reduceIte]; omega)) (by first | omega | (simp only [up_app, Nat.reduceEqDiff, Int.reduceEq, and_true, true_and, and_self, and_false, false_and, if_true, if_false, reduceIte]; omega)) (by first | omega | (simp only [up_app, Nat.reduceEqDiff, Int.reduceEq, and_true, true_and, and_self, and_false, false_and, if_true, if_false, reduceIte]; omega)) ?_
    refine f_aload_n hZ dX7_costOf_69 rfl ?_
    refine gX7_66 hZ dX7_costOf_70 ?_
    refine f_iload hZ dX7_costOf_73 rfl ?_
    refine f_iaload hZ dX7_costOf_75 (by first | rfl | exact hC.t1 | exact hC.t2 | exact hC.t3 | exact hC.t4 | exact hC.t5) (by first | rfl | exact hC.l1 | exact hC.l2 | exact hC.l3 | exact hC.l4 | exact hC.l5) (by first | omega | (simp only [up_app, Nat.reduceEqDiff, Int.reduceEq, and_true, true_and, and_self, and_false, false_and, if_true, if_false, reduceIte]; omega)) (by first | omega | (simp only [up_app, Nat.reduceEqDiff, Int.reduceEq, and_true, true_and, and_self, and_false, false_and, if_true, if_false, reduceIte]; omega)) (fun r75 => ?_)
    try simp only [up_app, Nat.reduceEqDiff, Int.reduceEq, and_true, true_and, and_self, and_false, false_and, if_true, if_false, reduceIte] at r75 ⊢
    exact f_retI hZ hR dX7_costOf_76 rfl (by first | omega | (simp only [up_app, Nat.reduceEqDiff, Int.reduceEq, and_true, true_and, and_self, and_false, false_and, if_true, if_false, reduceIte]; omega)) (by first | exact ⟨hset.1, hset.2, v65⟩ | (refine ⟨⟨fun _ _ _ => rfl, fun _ _ => rfl⟩, s6, ?_⟩; rcases s6 with z | z; exact absurd z hask; have z := z w l p t hw.1 (by omega) hl (by omega) ht; unfold cix at z; omega))

def buP (M : fM) (W : Int → pV) (lv : Int) (K : fM) : Prop := UpdM M (buS M (W 0) lv) K ∧ FL lv M K ∧ lvStat K W
section Lg
variable {lv w e l g a r : Int} {M N N1 K : fM} {W : Int → pV}
theorem FU_up3 : FU lv w N1 (up (up (up N1 69 (4 * lv + w) l) 71 lv a) 59 37 g) := FU_iff.mpr ⟨fun k h1 h2 => by rw [up_ne h1, up_ne (by omega), up_ne (by omega)], fun k _ _ h3 => by rw [up_app, if_neg (fun z => h3 z.2), up_ne (by decide), up_ne (by decide)], fun i _ => ⟨by rw [up_ne (by decide), up_ne (by decide), up_ne (by decide)], fun h2 => by rw [up_ne (by decide), up_ne (by decide), up_app, if_neg (fun z => h2 z.2)]⟩, fun i _ => ⟨by rw [up_ne (by decide), up_ne (by decide), up_ne (by decide)], fun h2 => ⟨by rw [up_ne (by decide), up_app, if_neg (fun z => h2 z.2), up_ne (by decide)], by rw [up_ne (by decide), up_ne (by decide), up_ne (by decide)]⟩⟩⟩
theorem st_eq (hs : lvStat N W) (e1 : ∀ c, c ≠ 59 → (c < 68 ∨ 72 < c) → K c = N c) (e2 : ∀ k, (k < 15 ∨ 29 < k) → k ≠ 37 → K 59 k = N 59 k) : lvStat K W := by
  obtain ⟨s1, s2, s3, s4, s5, s6⟩ := hs
  exact ⟨s1.eq (fun k a b => e2 k (by omega) (by omega)) (fun c a b => e1 c (by omega) (by omega)), s2.eq (e2 4 (by omega) (by decide)) (e1 60 (by decide) (by decide)) (e1 61 (by decide) (by decide)), by rw [e2 36 (by omega) (by decide)]; exact s3, by rw [e2 44 (by omega) (by decide)]; exact s4, s5.eq (fun c a b => e1 c (by omega) (by omega)), s6.eq (e1 77 (by decide) (by decide)) (e2 42 (by omega) (by decide)) (e2 13 (by omega) (by decide)) (e1 65 (by decide) (by decide)) (e1 67 (by decide) (by decide))⟩
theorem st_up3 (hs : lvStat N1 W) : lvStat (up (up (up N1 69 (4 * lv + w) l) 71 lv a) 59 37 g) W := st_eq hs (fun c h1 h2 => by rw [up_ne h1, up_ne (by omega), up_ne (by omega)]) (fun k _ h3 => by rw [up_app, if_neg (fun z => h3 z.2), up_ne (by decide), up_ne (by decide)])
theorem lc_none (h : M 59 42 = 0) {a b : Int} : lc (cst M (W 0) lv w) a b = 0 := by
  have : ∀ j, cst M (W 0) lv w j = 0 := fun j => if_pos h
  unfold lc
  rw [this, this]
  split <;> split <;> rfl
/-- a price is paid -/
theorem LI_pay (hL : LIm M W lv w e N) (hask : M 59 42 ≠ 0) (he : 1 ≤ e) (h0 : 0 ≤ M 69 (4 * lv + w)) (h2 : M 69 (4 * lv + w) + e ≤ 2) (hr : r = mprZ N (W 0) w (M 69 (4 * lv + w) + e - 1) (M 68 (4 * lv + w)) (M 70 lv)) : N 72 lv + r = M 72 lv + lc (cst M (W 0) lv w) (M 69 (4 * lv + w)) (M 69 (4 * lv + w) + e) := by
  have hF := FU_iff.mp hL.2.1
  have h3 := lc_succ (f := cst M (W 0) lv w) h0 (show M 69 (4 * lv + w) ≤ M 69 (4 * lv + w) + e - 1 by omega) (by omega)
  rw [show M 69 (4 * lv + w) + e - 1 + 1 = M 69 (4 * lv + w) + e by omega] at h3
  have h4 := hL.2.2.2
  rw [show M 69 (4 * lv + w) + max 0 (e - 1) = M 69 (4 * lv + w) + e - 1 by omega] at h4
  have h5 : r = cst M (W 0) lv w (M 69 (4 * lv + w) + e - 1) := by
    rw [hr, mprZ_eq (hF.2.1 13 (by omega) (by omega) (by omega)) (hF.1 65 (by decide) (by decide)) (hF.1 67 (by decide) (by decide))]
    exact (if_neg hask).symm
  rw [h3, h4, h5]; omega
theorem co_FU (h : coP N K) : FU lv w N (up K 72 lv r) := FU_iff.mpr ⟨fun c a b => by rw [up_ne (by omega), h.1 c a (by omega)], fun k a _ _ => by rw [up_ne (by decide), h.2 k a], fun i _ => ⟨by rw [up_ne (by decide), h.1 68 (by decide) (by decide)], fun _ => by rw [up_ne (by decide), h.1 69 (by decide) (by decide)]⟩, fun i _ => ⟨by rw [up_ne (by decide), h.1 70 (by decide) (by decide)], fun h2 => ⟨by rw [up_ne (by decide), h.1 71 (by decide) (by decide)], by rw [up_app, if_neg (fun z => h2 z.2), h.1 72 (by decide) (by decide)]⟩⟩⟩
theorem co_st (h : coP N K) (hs : lvStat N W) (hc : cmI K (W 0)) : lvStat (up K 72 lv r) W := by
  obtain ⟨s1, s2, s3, s4, s5, s6⟩ := hs
  have e1 : ∀ c, c ≠ 59 → c ≠ 77 → c ≠ 72 → up K 72 lv r c = N c := fun c a b f => by rw [up_ne f, h.1 c a b]
  have e2 : ∀ k, (k < 15 ∨ 29 < k) → up K 72 lv r 59 k = N 59 k := fun k a => by rw [up_ne (by decide), h.2 k a]
  exact ⟨s1.eq (fun k a b => e2 k (by omega)) (fun c a b => e1 c (by omega) (by omega) (by omega)), s2.eq (e2 4 (by omega)) (e1 60 (by decide) (by decide) (by decide)) (e1 61 (by decide) (by decide) (by decide)), by rw [e2 36 (by omega)]; exact s3, by rw [e2 44 (by omega)]; exact s4, s5.eq (fun c a b => e1 c (by omega) (by omega) (by omega)), hc.eq (up_ne (by decide)) (by rw [up_ne (by decide)]) (by rw [up_ne (by decide)]) (up_ne (by decide)) (up_ne (by decide))⟩
end Lg
set_option maxRecDepth 20000 in
set_option maxHeartbeats 4000000 in
theorem t_lights_n {X : fX} {M : fM} {D : Nat} {W : Int → pV} {lv w : Int} (hk : lvOk M W lv w) (hw : w = M 59 12) (hB : fC X D mX7_burnsOn [.ref (xa X 59), .int (iv lv)] M (QV fun K => buP M W lv K)) : fC X (D + 1) mX7_lights [.ref (xa X 59), .int (iv lv), .int (iv w)] M (QV fun K => liP M W lv w K) := by
  refine fC.of (L := [_, _, _, _, _, _, _, _, _, _]) (by decide +kernel) rfl (Nat.le_of_ble_eq_true rfl) (fun Z hZ hR => ?_)
  have hn12 := hk.1.1.1
  have hlv := hk.2.1
  refine f_iload_n hZ dX7_lights_0 rfl ?_
  refine f_aload_n hZ dX7_lights_1 rfl ?_
  refine gX7_110 hZ dX7_lights_2 (fun r2 => ?_)
  refine f_ine (tgt := 14) hZ dX7_lights_5 rfl (by omega) (by omega) (fun h5 => ?_) (fun h5 => ?_)
  · exfalso; omega
  · refine f_aload_n hZ dX7_lights_8 rfl ?_
    refine f_iload_n hZ dX7_lights_9 rfl ?_
    refine vX7_312 hZ dX7_lights_10 (hB) (fun M10 h10 => ?_)
    exact f_retV hZ hR dX7_lights_13 rfl (by subst hw; exact ⟨UpdM.congr (liS_end hk) h10.1, h10.2.1, h10.2.2⟩)

set_option maxRecDepth 20000 in
set_option maxHeartbeats 4000000 in
theorem t_lights_s {X : fX} {M : fM} {d : Nat} {W : Int → pV} {lv w : Int} (hk : lvOk M W lv w) (hw : w < M 59 12) (hN : ∀ N, lvOk N W lv (w + 1) → N 59 12 = M 59 12 → fC X (d + 49) mX7_lights [.ref (xa X 59), .int (iv lv), .int (iv (w + 1))] N (QV fun K => liP N W lv (w + 1) K)) : fC X (d + 50) mX7_lights [.ref (xa X 59), .int (iv lv), .int (iv w)] M (QV fun K => liP M W lv w K) := by
  have hn12 := hk.1.1.1
  have hlv := hk.2.1
  have hrow := hk.2.2.1 w hlv.2.1 hw
  have hr1 := hrow.1
  have hr2 := hrow.2.1
  have hpa := (hk.1.1.2.2.2 w hlv.2.1 hw).2.2.1
  have htm := hk.2.2.2.2.1.1
  have hnu := hk.2.2.2.2.2.1
  have hnu1 := hnu.1
  have hnu2 := hnu.2.1
  have hnu3 := hnu.2.2.1
  clear hrow hnu
  refine fC.of (L := [_, _, _, _, _, _, _, _, _, _]) (by decide +kernel) rfl (Nat.le_of_ble_eq_true rfl) (fun Z hZ hR => ?_)
  have loop : ∀ (mst : Int), (0 ≤ mst ∧ mst ≤ 2 - M 69 (4 * lv + w)) → mst = (if 0 < M 68 (4 * lv + w) then 2 - M 69 (4 * lv + w) else 0) → ∀ (m : Nat) (e : Int) (N : fM), e + m = mst + 1 → 0 ≤ e → LIm M W lv w e N → fG X mX7_lights Z 72 [.ref (xa X 59), .int (iv lv), .int (iv w), .int (iv (4 * lv + w)), .int (iv (M 69 (4 * lv + w))), .int (iv (M 72 lv)), .int (iv (M 71 lv)), .int (iv (M 59 37)), .int (iv mst), .int (iv e)] [] N := by
    intro mst hm0 hm m
    induction m with
    | zero =>
      intro e N hem he0 hL
      have hdone := LIm.done hk hw (by rw [← hm]; omega) hL
      refine f_iload hZ dX7_lights_72 rfl ?_
      refine f_iload hZ dX7_lights_74 rfl ?_
      refine f_igt (tgt := 181) hZ dX7_lights_76 rfl (by omega) (by omega) (fun h76 => ?_) (fun h76 => ?_)
      · refine f_aload_n hZ dX7_lights_181 rfl ?_
        refine gX7_41 hZ dX7_lights_182 ?_
        refine f_iload_n hZ dX7_lights_185 rfl ?_
        refine f_iload hZ dX7_lights_186 rfl ?_
        refine f_iastore hZ dX7_lights_188 (by first | rfl | exact hC.t1 | exact hC.t2 | exact hC.t3 | exact hC.t4 | exact hC.t5) (by first | rfl | exact hC.l1 | exact hC.l2 | exact hC.l3 | exact hC.l4 | exact hC.l5) (by omega) (by omega) (by omega) ?_
        refine f_aload_n hZ dX7_lights_189 rfl ?_
        refine gX7_50 hZ dX7_lights_190 ?_
        refine f_iload_n hZ dX7_lights_193 rfl ?_
        refine f_iload hZ dX7_lights_194 rfl ?_
        refine f_iastore hZ dX7_lights_196 (by first | rfl | exact hC.t1 | exact hC.t2 | exact hC.t3 | exact hC.t4 | exact hC.t5) (by first | rfl | exact hC.l1 | exact hC.l2 | exact hC.l3 | exact hC.l4 | exact hC.l5) (by omega) (by omega) (by omega) ?_
        refine f_aload_n hZ dX7_lights_197 rfl ?_
        refine gX7_47 hZ dX7_lights_198 ?_
        refine f_iload_n hZ dX7_lights_201 rfl ?_
        refine f_iload hZ dX7_lights_202 rfl ?_
        refine f_iastore hZ dX7_lights_204 (by first | rfl | exact hC.t1 | exact hC.t2 | exact hC.t3 | exact hC.t4 | exact hC.t5) (by first | rfl | exact hC.l1 | exact hC.l2 | exact hC.l3 | exact hC.l4 | exact hC.l5) (by omega) (by omega) (by omega) ?_
        refine f_aload_n hZ dX7_lights_205 rfl ?_
        refine f_iload hZ dX7_lights_206 rfl ?_
        refine pX7_301 hZ dX7_lights_208 (by omega) ?_
        exact f_retV hZ hR dX7_lights_211 rfl (by exact hdone)
      · exfalso; omega
    | succ m ih =>
      intro e N hem he0 hL
      have hF := FU_iff.mp hL.2.1
      have f12 : N 59 12 = M 59 12 := hF.2.1 12 (by omega) (by omega) (by omega)
      have f42 : N 59 42 = M 59 42 := hF.2.1 42 (by omega) (by omega) (by omega)
      have f68 : N 68 (4 * lv + w) = M 68 (4 * lv + w) := (hF.2.2.1 _ (by omega)).1
      have f65 : N 65 = M 65 := hF.1 65 (by decide) (by decide)
      have f65w : N 65 w = M 65 w := by rw [f65]
      have f70 : N 70 lv = M 70 lv := (hF.2.2.2 lv (Int.le_refl lv)).1
      have k124 : ∀ (N1 : fM), FU lv w M N1 → lvStat N1 W → N1 72 lv = M 72 lv + lc (cst M (W 0) lv w) (M 69 (4 * lv + w)) (M 69 (4 * lv + w) + e) → (∀ c, 73 ≤ c → c ≤ 76 → N1 c = N c) → N1 59 44 = N 59 44 → fG X mX7_lights Z 124 [.ref (xa X 59), .int (iv lv), .int (iv w), .int (iv (4 * lv + w)), .int (iv (M 69 (4 * lv + w))), .int (iv (M 72 lv)), .int (iv (M 71 lv)), .int (iv (M 59 37)), .int (iv mst), .int (iv e)] [] N1 := by
        intro N1 h1 h2 h3 h4 h5
        have dgr : rg (dgN M lv e) := by
          unfold dgN
          split <;> omega
        refine f_aload_n hZ dX7_lights_124 rfl ?_
        refine gX7_41 hZ dX7_lights_125 ?_
        refine f_iload_n hZ dX7_lights_128 rfl ?_
        refine f_iload hZ dX7_lights_129 rfl ?_
        refine f_iload hZ dX7_lights_131 rfl ?_
        refine f_iadd hZ dX7_lights_133 ?_
        refine f_iastore hZ dX7_lights_134 (by first | rfl | exact hC.t1 | exact hC.t2 | exact hC.t3 | exact hC.t4 | exact hC.t5) (by first | rfl | exact hC.l1 | exact hC.l2 | exact hC.l3 | exact hC.l4 | exact hC.l5) (by first | omega | (simp only [up_app, Nat.reduceEqDiff, Int.reduceEq, and_true, true_and, and_self, and_false, false_and, if_true, if_false, reduceIte]; omega)) (by first | omega | (simp only [up_app, Nat.reduceEqDiff, Int.reduceEq, and_true, true_and, and_self, and_false, false_and, if_true, if_false, reduceIte]; omega)) (by first | omega | (simp only [up_app, Nat.reduceEqDiff, Int.reduceEq, and_true, true_and, and_self, and_false, false_and, if_true, if_false, reduceIte]; omega)) ?_
        refine f_aload_n hZ dX7_lights_135 rfl ?_
        refine gX7_47 hZ dX7_lights_136 ?_
        refine f_iload_n hZ dX7_lights_139 rfl ?_
        refine f_iload hZ dX7_lights_140 rfl ?_
        refine f_iload hZ dX7_lights_142 rfl ?_
        refine f_iadd hZ dX7_lights_144 ?_
        refine f_iastore hZ dX7_lights_145 (by first | rfl | exact hC.t1 | exact hC.t2 | exact hC.t3 | exact hC.t4 | exact hC.t5) (by first | rfl | exact hC.l1 | exact hC.l2 | exact hC.l3 | exact hC.l4 | exact hC.l5) (by first | omega | (simp only [up_app, Nat.reduceEqDiff, Int.reduceEq, and_true, true_and, and_self, and_false, false_and, if_true, if_false, reduceIte]; omega)) (by first | omega | (simp only [up_app, Nat.reduceEqDiff, Int.reduceEq, and_true, true_and, and_self, and_false, false_and, if_true, if_false, reduceIte]; omega)) (by first | omega | (simp only [up_app, Nat.reduceEqDiff, Int.reduceEq, and_true, true_and, and_self, and_false, false_and, if_true, if_false, reduceIte]; omega)) ?_
        refine f_aload_n hZ dX7_lights_146 rfl ?_
        refine f_iload_n hZ dX7_lights_147 rfl ?_
        refine f_ne (tgt := 162) hZ dX7_lights_148 rfl (by first | omega | (simp only [up_app, Nat.reduceEqDiff, Int.reduceEq, and_true, true_and, and_self, and_false, false_and, if_true, if_false, reduceIte]; omega)) (fun h148 => ?_) (fun h148 => ?_)
        · refine f_iload hZ dX7_lights_162 rfl ?_
          refine f_eqv (a' := dgN M lv e) (by unfold dgN; rw [if_neg (by omega)]) ?_
          refine pX7_301 hZ dX7_lights_164 (by first | omega | exact dgr | (simp only [up_app, Nat.reduceEqDiff, Int.reduceEq, and_true, true_and, and_self, and_false, false_and, if_true, if_false, reduceIte]; omega)) ?_
          have hq := LI_call hk hw he0 (by rw [← hm]; omega) (FU_trans h1 FU_up3) (st_up3 h2) (N2 := up (up (up N1 69 (4 * lv + w) (M 69 (4 * lv + w) + e)) 71 lv (M 71 lv + e)) 59 37 (dgN M lv e)) (by rw [up_ne (by decide), up_ne (by decide), up_app, if_pos ⟨rfl, rfl⟩]) (by rw [up_ne (by decide), up_app, if_pos ⟨rfl, rfl⟩]) (by rw [up_ne (by decide), up_ne (by decide), up_ne (by decide)]; exact h3) (by rw [up_app, if_pos ⟨rfl, rfl⟩])
          have h12 : (up (up (up N1 69 (4 * lv + w) (M 69 (4 * lv + w) + e)) 71 lv (M 71 lv + e)) 59 37 (dgN M lv e)) 59 12 = M 59 12 := (FU_iff.mp (FU_trans h1 FU_up3)).2.1 12 (by omega) (by omega) (by omega)
          refine f_aload_n hZ dX7_lights_167 rfl ?_
          refine f_iload_n hZ dX7_lights_168 rfl ?_
          refine f_iload_n hZ dX7_lights_169 rfl ?_
          refine f_iconst hZ dX7_lights_170 ?_
          refine f_iadd hZ dX7_lights_171 ?_
          refine vX7_304 hZ dX7_lights_172 (hN _ hq.1 h12) (fun M172 h172 => ?_)
          refine f_iinc (L' := [_, _, _, _, _, _, _, _, _, _]) hZ dX7_lights_175 rfl rfl ?_
          refine f_goto (tgt := 72) hZ dX7_lights_178 rfl ?_
          exact ih (e + 1) _ (by omega) (by omega) (LIm.next hk hw he0 hL (FU_trans h1 FU_up3) hq.2 (by rw [up_ne (by decide), up_ne (by decide), up_ne (by decide)]; exact h3) (fun c a b => by rw [up_ne (by omega), up_ne (by omega), up_ne (by omega)]; exact h4 c a b) (by rw [up_app, if_neg (by decide), up_ne (by decide), up_ne (by decide)]; exact h5) h172)
        · refine f_bipush hZ dX7_lights_151 ?_
          refine f_iload hZ dX7_lights_153 rfl ?_
          refine f_imul hZ dX7_lights_155 ?_
          refine f_iload hZ dX7_lights_156 rfl ?_
          refine f_iadd hZ dX7_lights_158 ?_
          refine f_goto (tgt := 164) hZ dX7_lights_159 rfl ?_
          rw [show 10 * M 59 37 + e = dgN M lv e by unfold dgN; rw [if_pos (by omega)]]
          refine pX7_301 hZ dX7_lights_164 (by first | omega | exact dgr | (simp only [up_app, Nat.reduceEqDiff, Int.reduceEq, and_true, true_and, and_self, and_false, false_and, if_true, if_false, reduceIte]; omega)) ?_
          have hq := LI_call hk hw he0 (by rw [← hm]; omega) (FU_trans h1 FU_up3) (st_up3 h2) (N2 := up (up (up N1 69 (4 * lv + w) (M 69 (4 * lv + w) + e)) 71 lv (M 71 lv + e)) 59 37 (dgN M lv e)) (by rw [up_ne (by decide), up_ne (by decide), up_app, if_pos ⟨rfl, rfl⟩]) (by rw [up_ne (by decide), up_app, if_pos ⟨rfl, rfl⟩]) (by rw [up_ne (by decide), up_ne (by decide), up_ne (by decide)]; exact h3) (by rw [up_app, if_pos ⟨rfl, rfl⟩])
          have h12 : (up (up (up N1 69 (4 * lv + w) (M 69 (4 * lv + w) + e)) 71 lv (M 71 lv + e)) 59 37 (dgN M lv e)) 59 12 = M 59 12 := (FU_iff.mp (FU_trans h1 FU_up3)).2.1 12 (by omega) (by omega) (by omega)
          refine f_aload_n hZ dX7_lights_167 rfl ?_
          refine f_iload_n hZ dX7_lights_168 rfl ?_
          refine f_iload_n hZ dX7_lights_169 rfl ?_
          refine f_iconst hZ dX7_lights_170 ?_
          refine f_iadd hZ dX7_lights_171 ?_
          refine vX7_304 hZ dX7_lights_172 (hN _ hq.1 h12) (fun M172 h172 => ?_)
          refine f_iinc (L' := [_, _, _, _, _, _, _, _, _, _]) hZ dX7_lights_175 rfl rfl ?_
          refine f_goto (tgt := 72) hZ dX7_lights_178 rfl ?_
          exact ih (e + 1) _ (by omega) (by omega) (LIm.next hk hw he0 hL (FU_trans h1 FU_up3) hq.2 (by rw [up_ne (by decide), up_ne (by decide), up_ne (by decide)]; exact h3) (fun c a b => by rw [up_ne (by omega), up_ne (by omega), up_ne (by omega)]; exact h4 c a b) (by rw [up_app, if_neg (by decide), up_ne (by decide), up_ne (by decide)]; exact h5) h172)
      refine f_iload hZ dX7_lights_72 rfl ?_
      refine f_iload hZ dX7_lights_74 rfl ?_
      refine f_igt (tgt := 181) hZ dX7_lights_76 rfl (by first | omega | (simp only [up_app, Nat.reduceEqDiff, Int.reduceEq, and_true, true_and, and_self, and_false, false_and, if_true, if_false, reduceIte]; omega)) (by first | omega | (simp only [up_app, Nat.reduceEqDiff, Int.reduceEq, and_true, true_and, and_self, and_false, false_and, if_true, if_false, reduceIte]; omega)) (fun h76 => ?_) (fun h76 => ?_)
      · exfalso; omega
      · refine f_iload hZ dX7_lights_79 rfl ?_
        refine f_le (tgt := 124) hZ dX7_lights_81 rfl (by first | omega | (simp only [up_app, Nat.reduceEqDiff, Int.reduceEq, and_true, true_and, and_self, and_false, false_and, if_true, if_false, reduceIte]; omega)) (fun h81 => ?_) (fun h81 => ?_)
        · exact k124 _ hL.2.1 hL.2.2.1 (by rw [hL.2.2.2, show max 0 (e - 1) = e by omega]) (fun _ _ _ => rfl) rfl
        · refine f_aload_n hZ dX7_lights_84 rfl ?_
          refine gX7_292 hZ dX7_lights_85 (fun r85 => ?_)
          refine f_eq (tgt := 124) hZ dX7_lights_88 rfl (by first | omega | (simp only [up_app, Nat.reduceEqDiff, Int.reduceEq, and_true, true_and, and_self, and_false, false_and, if_true, if_false, reduceIte]; omega)) (fun h88 => ?_) (fun h88 => ?_)
          · exact k124 _ hL.2.1 hL.2.2.1 (by rw [hL.2.2.2, lc_none (by omega), lc_none (by omega)]) (fun _ _ _ => rfl) rfl
          · refine f_aload_n hZ dX7_lights_91 rfl ?_
            refine gX7_50 hZ dX7_lights_92 ?_
            refine f_iload_n hZ dX7_lights_95 rfl ?_
            refine f_dup2 hZ dX7_lights_96 rfl rfl ?_
            refine f_iaload hZ dX7_lights_97 (by first | rfl | exact hC.t1 | exact hC.t2 | exact hC.t3 | exact hC.t4 | exact hC.t5) (by first | rfl | exact hC.l1 | exact hC.l2 | exact hC.l3 | exact hC.l4 | exact hC.l5) (by first | omega | (simp only [up_app, Nat.reduceEqDiff, Int.reduceEq, and_true, true_and, and_self, and_false, false_and, if_true, if_false, reduceIte]; omega)) (by first | omega | (simp only [up_app, Nat.reduceEqDiff, Int.reduceEq, and_true, true_and, and_self, and_false, false_and, if_true, if_false, reduceIte]; omega)) (fun r97 => ?_)
            refine f_aload_n hZ dX7_lights_98 rfl ?_
            refine f_iload_n hZ dX7_lights_99 rfl ?_
            refine f_iload hZ dX7_lights_100 rfl ?_
            refine f_iload hZ dX7_lights_102 rfl ?_
            refine f_iadd hZ dX7_lights_104 ?_
            refine f_iconst hZ dX7_lights_105 ?_
            refine f_isub hZ dX7_lights_106 ?_
            refine f_aload_n hZ dX7_lights_107 rfl ?_
            refine gX7_38 hZ dX7_lights_108 ?_
            refine f_iload_n hZ dX7_lights_111 rfl ?_
            refine f_iaload hZ dX7_lights_112 (by first | rfl | exact hC.t1 | exact hC.t2 | exact hC.t3 | exact hC.t4 | exact hC.t5) (by first | rfl | exact hC.l1 | exact hC.l2 | exact hC.l3 | exact hC.l4 | exact hC.l5) (by first | omega | (simp only [up_app, Nat.reduceEqDiff, Int.reduceEq, and_true, true_and, and_self, and_false, false_and, if_true, if_false, reduceIte]; omega)) (by first | omega | (simp only [up_app, Nat.reduceEqDiff, Int.reduceEq, and_true, true_and, and_self, and_false, false_and, if_true, if_false, reduceIte]; omega)) (fun r112 => ?_)
            refine f_aload_n hZ dX7_lights_113 rfl ?_
            refine gX7_44 hZ dX7_lights_114 ?_
            refine f_iload_n hZ dX7_lights_117 rfl ?_
            refine f_iaload hZ dX7_lights_118 (by first | rfl | exact hC.t1 | exact hC.t2 | exact hC.t3 | exact hC.t4 | exact hC.t5) (by first | rfl | exact hC.l1 | exact hC.l2 | exact hC.l3 | exact hC.l4 | exact hC.l5) (by first | omega | (simp only [up_app, Nat.reduceEqDiff, Int.reduceEq, and_true, true_and, and_self, and_false, false_and, if_true, if_false, reduceIte]; omega)) (by first | omega | (simp only [up_app, Nat.reduceEqDiff, Int.reduceEq, and_true, true_and, and_self, and_false, false_and, if_true, if_false, reduceIte]; omega)) (fun r118 => ?_)
            refine vX7_316 hZ dX7_lights_119 (t_X7_costOf (W := W) hL.2.2.1 (by omega) (by omega) (by omega) (by omega) (by omega)) (fun a119 M119 r119 h119 => ?_)
            have hpr : 0 ≤ a119 ∧ a119 ≤ 99 := by rw [h119.2.2]; exact bd_rg (by omega)
            have hlc : N 72 lv = M 72 lv + lc (cst M (W 0) lv w) (M 69 (4 * lv + w)) (M 69 (4 * lv + w) + max 0 (e - 1)) := hL.2.2.2
            have hlr := lc_rg (f := cst M (W 0) lv w) (a := M 69 (4 * lv + w)) (l := M 69 (4 * lv + w) + max 0 (e - 1)) (fun j => mprX_rg) (by omega) (by omega) (by omega)
            refine f_iadd hZ dX7_lights_122 ?_
            refine f_iastore hZ dX7_lights_123 (by first | rfl | exact hC.t1 | exact hC.t2 | exact hC.t3 | exact hC.t4 | exact hC.t5) (by first | rfl | exact hC.l1 | exact hC.l2 | exact hC.l3 | exact hC.l4 | exact hC.l5) (by first | omega | (simp only [up_app, Nat.reduceEqDiff, Int.reduceEq, and_true, true_and, and_self, and_false, false_and, if_true, if_false, reduceIte]; omega)) (by first | omega | (simp only [up_app, Nat.reduceEqDiff, Int.reduceEq, and_true, true_and, and_self, and_false, false_and, if_true, if_false, reduceIte]; omega)) (by first | omega | (simp only [up_app, Nat.reduceEqDiff, Int.reduceEq, and_true, true_and, and_self, and_false, false_and, if_true, if_false, reduceIte]; omega)) ?_
            exact k124 _ (FU_trans hL.2.1 (co_FU h119.1)) (co_st h119.1 hL.2.2.1 h119.2.1) (by rw [up_app, if_pos ⟨rfl, rfl⟩]; exact LI_pay hL (by omega) (by omega) (by omega) (by omega) (by rw [h119.2.2, f68, f70])) (fun c a b => by rw [up_ne (by omega)]; exact h119.1.1 c (by omega) (by omega)) (by rw [up_ne (by decide)]; exact h119.1.2 44 (by omega))
  refine f_iload_n hZ dX7_lights_0 rfl ?_
  refine f_aload_n hZ dX7_lights_1 rfl ?_
  refine gX7_110 hZ dX7_lights_2 (fun r2 => ?_)
  refine f_ine (tgt := 14) hZ dX7_lights_5 rfl (by omega) (by omega) (fun h5 => ?_) (fun h5 => ?_)
  · refine f_iconst hZ dX7_lights_14 ?_
    refine f_iload_n hZ dX7_lights_15 rfl ?_
    refine f_imul hZ dX7_lights_16 ?_
    refine f_iload_n hZ dX7_lights_17 rfl ?_
    refine f_iadd hZ dX7_lights_18 ?_
    refine f_istore_n (L' := [_, _, _, _, _, _, _, _, _, _]) hZ dX7_lights_19 rfl rfl ?_
    refine f_aload_n hZ dX7_lights_20 rfl ?_
    refine gX7_41 hZ dX7_lights_21 ?_
    refine f_iload_n hZ dX7_lights_24 rfl ?_
    refine f_iaload hZ dX7_lights_25 (by first | rfl | exact hC.t1 | exact hC.t2 | exact hC.t3 | exact hC.t4 | exact hC.t5) (by first | rfl | exact hC.l1 | exact hC.l2 | exact hC.l3 | exact hC.l4 | exact hC.l5) (by omega) (by omega) (fun r25 => ?_)
    refine f_istore (L' := [_, _, _, _, _, _, _, _, _, _]) hZ dX7_lights_26 rfl rfl ?_
    refine f_aload_n hZ dX7_lights_28 rfl ?_
    refine gX7_50 hZ dX7_lights_29 ?_
    refine f_iload_n hZ dX7_lights_32 rfl ?_
    refine f_iaload hZ dX7_lights_33 (by first | rfl | exact hC.t1 | exact hC.t2 | exact hC.t3 | exact hC.t4 | exact hC.t5) (by first | rfl | exact hC.l1 | exact hC.l2 | exact hC.l3 | exact hC.l4 | exact hC.l5) (by omega) (by omega) (fun r33 => ?_)
    refine f_istore (L' := [_, _, _, _, _, _, _, _, _, _]) hZ dX7_lights_34 rfl rfl ?_
    refine f_aload_n hZ dX7_lights_36 rfl ?_
    refine gX7_47 hZ dX7_lights_37 ?_
    refine f_iload_n hZ dX7_lights_40 rfl ?_
    refine f_iaload hZ dX7_lights_41 (by first | rfl | exact hC.t1 | exact hC.t2 | exact hC.t3 | exact hC.t4 | exact hC.t5) (by first | rfl | exact hC.l1 | exact hC.l2 | exact hC.l3 | exact hC.l4 | exact hC.l5) (by omega) (by omega) (fun r41 => ?_)
    refine f_istore (L' := [_, _, _, _, _, _, _, _, _, _]) hZ dX7_lights_42 rfl rfl ?_
    refine f_aload_n hZ dX7_lights_44 rfl ?_
    refine gX7_301 hZ dX7_lights_45 (fun r45 => ?_)
    refine f_istore (L' := [_, _, _, _, _, _, _, _, _, _]) hZ dX7_lights_48 rfl rfl ?_
    refine f_aload_n hZ dX7_lights_50 rfl ?_
    refine gX7_38 hZ dX7_lights_51 ?_
    refine f_iload_n hZ dX7_lights_54 rfl ?_
    refine f_iaload hZ dX7_lights_55 (by first | rfl | exact hC.t1 | exact hC.t2 | exact hC.t3 | exact hC.t4 | exact hC.t5) (by first | rfl | exact hC.l1 | exact hC.l2 | exact hC.l3 | exact hC.l4 | exact hC.l5) (by omega) (by omega) (fun r55 => ?_)
    refine f_le (tgt := 66) hZ dX7_lights_56 rfl (by omega) (fun h56 => ?_) (fun h56 => ?_)
    · refine f_iconst hZ dX7_lights_66 ?_
      refine f_istore (L' := [_, _, _, _, _, _, _, _, _, _]) hZ dX7_lights_67 rfl rfl ?_
      refine f_iconst hZ dX7_lights_69 ?_
      refine f_istore (L' := [_, _, _, _, _, _, _, _, _, _]) hZ dX7_lights_70 rfl rfl ?_
      first
        | exact loop (2 - M 69 (4 * lv + w)) (by omega) (by rw [if_pos (by omega)]) (3 - M 69 (4 * lv + w)).toNat 0 M (by omega) (Int.le_refl 0) (LIm.init hk.1)
        | exact loop 0 (by omega) (by rw [if_neg (by omega)]) 1 0 M (by omega) (Int.le_refl 0) (LIm.init hk.1)
    · refine f_iconst hZ dX7_lights_59 ?_
      refine f_iload hZ dX7_lights_60 rfl ?_
      refine f_isub hZ dX7_lights_62 ?_
      refine f_goto (tgt := 67) hZ dX7_lights_63 rfl ?_
      refine f_istore (L' := [_, _, _, _, _, _, _, _, _, _]) hZ dX7_lights_67 rfl rfl ?_
      refine f_iconst hZ dX7_lights_69 ?_
      refine f_istore (L' := [_, _, _, _, _, _, _, _, _, _]) hZ dX7_lights_70 rfl rfl ?_
      first
        | exact loop (2 - M 69 (4 * lv + w)) (by omega) (by rw [if_pos (by omega)]) (3 - M 69 (4 * lv + w)).toNat 0 M (by omega) (Int.le_refl 0) (LIm.init hk.1)
        | exact loop 0 (by omega) (by rw [if_neg (by omega)]) 1 0 M (by omega) (Int.le_refl 0) (LIm.init hk.1)
  · exfalso; omega

