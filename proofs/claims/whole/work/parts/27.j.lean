/-! judging, as a function of parts and lit -/
def bPa (n : Int) (K N P L : Int → Int) (dmp t : Int) : Int → Int := fun i => if 0 ≤ i ∧ i < n then burnP K N P L dmp t i else P i
def bLa (n : Int) (K N P L : Int → Int) (dmp t : Int) : Int → Int := fun i => if 0 ≤ i ∧ i < n then burnL K N P L dmp t i else L i
def updI (f : Int → Int) (w v : Int) : Int → Int := fun i => if i = w then v else f i
abbrev jok (n now t w e : Int) : Prop := (now ≤ t ∧ t ≤ 250) ∧ (0 ≤ w ∧ w < n) ∧ (1 ≤ e ∧ e ≤ 2)
def jdg (n dmp : Int) (K N T W E : Int → Int) : Nat → Int → Int → (Int → Int) → (Int → Int) → Int
  | 0, _, _, _, _ => -1
  | m + 1, row, now, P, L =>
    if ¬ jok n now (T row) (W row) (E row) then row
    else if 0 < bPa n K N P L dmp (T row - now) (W row) ∧ bLa n K N P L dmp (T row - now) (W row) + E row ≤ 2 then
      jdg n dmp K N T W E m (row + 1) (T row) (bPa n K N P L dmp (T row - now)) (updI (bLa n K N P L dmp (T row - now)) (W row) (bLa n K N P L dmp (T row - now) (W row) + E row))
    else row
theorem jdg_succ {n dmp : Int} {K N T W E : Int → Int} {m : Nat} {row now : Int} {P L : Int → Int} : jdg n dmp K N T W E (m + 1) row now P L = if ¬ jok n now (T row) (W row) (E row) then row else if 0 < bPa n K N P L dmp (T row - now) (W row) ∧ bLa n K N P L dmp (T row - now) (W row) + E row ≤ 2 then jdg n dmp K N T W E m (row + 1) (T row) (bPa n K N P L dmp (T row - now)) (updI (bLa n K N P L dmp (T row - now)) (W row) (bLa n K N P L dmp (T row - now) (W row) + E row)) else row := rfl
theorem bMm_P {N : fM} {t k : Int} : bMm N t k 65 = bPa k (N 63) (N 64) (N 65) (N 66) (N 59 13) t := by funext i; unfold bMm burnG bPa; simp
theorem bMm_L {N : fM} {t k : Int} : bMm N t k 66 = bLa k (N 63) (N 64) (N 65) (N 66) (N 59 13) t := by funext i; unfold bMm burnG bLa; simp
theorem up_upI {N : fM} {c : Nat} {w v : Int} : up N c w v c = updI (N c) w v := by funext i; unfold up updI; simp
theorem WfA.lit {n : Int} {K N P L B : Int → Int} (h : WfA n K N P L B) {w v : Int} (hp : 0 < P w) (hv : 0 ≤ v ∧ v ≤ 2) : WfA n K N P (updI L w v) B := by
  intro i h0 h1
  have hq := h i h0 h1
  unfold updI
  by_cases hi : i = w
  · subst hi; rw [if_pos rfl]; refine ⟨hq.1, hq.2.1, hq.2.2.1, hv, hq.2.2.2.2.1, fun z => ?_⟩; omega
  · rw [if_neg hi]; exact hq
/-! the model's judge: what it lays aside comes back -/
def JF (M N : fM) : Prop := ∀ (c : Nat) (i : Int), ¬ ((c = 65 ∨ c = 66 ∨ c = 67) ∧ 0 ≤ i ∧ i < 4) → ¬ (c = 59 ∧ i = 14) → N c i = asideM M c i
theorem JF.back {M N : fM} (h : JF M N) : lbackM N = asideM M := by
  funext c i
  by_cases h1 : (c = 65 ∨ c = 66 ∨ c = 67) ∧ 0 ≤ i ∧ i < 4
  · obtain ⟨hc, h2, h3⟩ := h1
    rcases hc with rfl | rfl | rfl <;> rcases (show i = 0 ∨ i = 1 ∨ i = 2 ∨ i = 3 by omega) with rfl | rfl | rfl | rfl
    · exact h 80 0 (by omega) (by omega)
    · exact h 80 1 (by omega) (by omega)
    · exact h 80 2 (by omega) (by omega)
    · exact h 80 3 (by omega) (by omega)
    · exact h 81 0 (by omega) (by omega)
    · exact h 81 1 (by omega) (by omega)
    · exact h 81 2 (by omega) (by omega)
    · exact h 81 3 (by omega) (by omega)
    · exact h 82 0 (by omega) (by omega)
    · exact h 82 1 (by omega) (by omega)
    · exact h 82 2 (by omega) (by omega)
    · exact h 82 3 (by omega) (by omega)
  · by_cases h2 : c = 59 ∧ i = 14
    · obtain ⟨rfl, rfl⟩ := h2
      exact h 59 51 (by omega) (by omega)
    · rw [← h c i h1 h2]
      unfold lbackM
      simp only [up_app]
      rw [if_neg (by omega), if_neg (by omega), if_neg (by omega), if_neg (by omega), if_neg (by omega), if_neg (by omega), if_neg (by omega), if_neg (by omega), if_neg (by omega), if_neg (by omega), if_neg (by omega), if_neg (by omega), if_neg (by omega)]
theorem JF.burn {M N : fM} (h : JF M N) {t k v : Int} (hk : k ≤ 4) : JF M (up (bMm N t k) 59 14 v) := by
  intro c i h1 h2
  rw [← h c i h1 h2, up_app, if_neg h2]
  by_cases hc : c = 65 ∨ c = 66 ∨ c = 67
  · show burnG 65 66 67 _ _ _ _ _ _ _ _ _ c i = _
    unfold burnG
    rw [if_neg (by omega)]
  · exact burnG_ne (by omega)
theorem JF.lit {M N : fM} (h : JF M N) {w v : Int} (hw : 0 ≤ w ∧ w < 4) : JF M (up N 66 w v) := by
  intro c i h1 h2
  rw [← h c i h1 h2, up_app, if_neg (by omega)]
theorem WfM.burn {N : fM} (h : WfM N) {t v : Int} (ht : 0 ≤ t ∧ t ≤ 250) (hv : 0 ≤ v ∧ v ≤ 9999) : WfM (up (bMm N t (N 59 12)) 59 14 v) := by
  obtain ⟨h1, h2, h3, h4⟩ := h
  have e1 : up (bMm N t (N 59 12)) 59 14 v 59 12 = N 59 12 := by rw [up_app, if_neg (by omega), bMm_59]
  have e2 : up (bMm N t (N 59 12)) 59 14 v 59 13 = N 59 13 := by rw [up_app, if_neg (by omega), bMm_59]
  refine ⟨by rw [e1]; exact h1, by rw [e2]; exact h2, hv, ?_⟩
  rw [e1]
  exact WfA.burn (by decide) (by decide) (by decide) rfl rfl rfl rfl rfl ht h2 h4
theorem WfM.lit {N : fM} (h : WfM N) {w v : Int} (hp : 0 < N 65 w) (hv : 0 ≤ v ∧ v ≤ 2) : WfM (up N 66 w v) := by
  obtain ⟨h1, h2, h3, h4⟩ := h
  have e : up N 66 w v 66 = updI (N 66) w v := up_upI
  refine ⟨h1, h2, h3, ?_⟩
  show WfA (N 59 12) (N 63) (N 64) (N 65) (up N 66 w v 66) (N 67)
  rw [e]
  exact h4.lit hp hv
set_option maxRecDepth 20000 in
set_option maxHeartbeats 4000000 in
theorem t_X7_judge {X : fX} {M : fM} {d : Nat} {s : Int} (hs : rg s) (hT : WfT M) (hW : WfM M) : fC X (d + 3) mX7_judge [.ref (xa X 59), .int (iv s)] M (QI fun r M' => (¬ (0 ≤ s ∧ s < 4) ∧ r = -2 ∧ M' = M) ∨ ((0 ≤ s ∧ s < 4) ∧ M 84 s = 0 ∧ r = -11 ∧ M' = M) ∨ ((0 ≤ s ∧ s < 4) ∧ M 84 s = 1 ∧ M 86 s % 3 ≠ 0 ∧ r = -2 ∧ M' = M) ∨ ((0 ≤ s ∧ s < 4) ∧ M 84 s = 1 ∧ M 86 s % 3 = 0 ∧ r = jdg (M 59 12) (M 59 13) (M 63) (M 64) (fun k => M 87 (40 * s + 3 * k)) (fun k => M 87 (40 * s + 3 * k + 1)) (fun k => M 87 (40 * s + 3 * k + 2)) (M 86 s / 3).toNat 0 0 (M 65) (M 66) ∧ M' = asideM M)) := by
  refine fC.of (L := [_, _, _, _, _, _, _, _, _]) (by decide +kernel) rfl (Nat.le_of_ble_eq_true rfl) (fun Z hZ hR => ?_)
  have exitF : ∀ (k f now : Int) (N : fM), (0 ≤ s ∧ s < 4) → M 84 s = 1 → (0 ≤ M 86 s ∧ M 86 s ≤ 40) → M 86 s % 3 = 0 → 0 ≤ k → k ≤ 20 → (0 ≤ f ∧ f ≤ 20) → f = jdg (M 59 12) (M 59 13) (M 63) (M 64) (fun k => M 87 (40 * s + 3 * k)) (fun k => M 87 (40 * s + 3 * k + 1)) (fun k => M 87 (40 * s + 3 * k + 2)) (M 86 s / 3).toNat 0 0 (M 65) (M 66) → JF M N → fG X mX7_judge Z 47 [.ref (xa X 59), .int (iv s), .int (iv f), .int (iv now), .int (iv k), .null, .null, .null, .null] [] N := by
    intro k f now N hs4 h84 h86 hmod hk0 hk hf hJ hF
    have e12 : N 59 12 = M 59 12 := hF 59 12 (by omega) (by omega)
    have e13 : N 59 13 = M 59 13 := hF 59 13 (by omega) (by omega)
    have e63 : N 63 = M 63 := funext fun i => hF 63 i (by omega) (by omega)
    have e64 : N 64 = M 64 := funext fun i => hF 64 i (by omega) (by omega)
    have e86 : N 86 = M 86 := funext fun i => hF 86 i (by omega) (by omega)
    have e87 : N 87 = M 87 := funext fun i => hF 87 i (by omega) (by omega)
    have htd : (M 86 s).tdiv 3 = M 86 s / 3 := tdiv3 (by omega)
    refine f_iload hZ dX7_judge_47 rfl ?_
    refine f_aload_n hZ dX7_judge_49 rfl ?_
    refine gX7_97 hZ dX7_judge_50 ?_
    refine f_iload_n hZ dX7_judge_53 rfl ?_
    refine f_iaload hZ dX7_judge_54 (by first | rfl | exact hC.t1 | exact hC.t2 | exact hC.t3 | exact hC.t4 | exact hC.t5) (by first | rfl | exact hC.l1 | exact hC.l2 | exact hC.l3 | exact hC.l4 | exact hC.l5) (by first | omega | (rw [htd]; omega)) (by first | omega | (rw [htd]; omega)) (fun r54 => ?_)
    try simp only [e86] at r54 ⊢
    refine f_iconst hZ dX7_judge_55 ?_
    refine f_idiv hZ dX7_judge_56 (by first | omega | (rw [htd]; omega)) (by first | omega | (rw [htd]; omega)) (by first | omega | (rw [htd]; omega)) (by first | omega | (rw [htd]; omega)) ?_
    refine f_ige (tgt := 196) hZ dX7_judge_57 rfl (by first | omega | (rw [htd]; omega)) (by first | omega | (rw [htd]; omega)) (fun h57 => ?_) (fun h57 => ?_)
    · refine f_aload_n hZ dX7_judge_196 rfl ?_
      refine vX7_352 hZ dX7_judge_197 (t_X7_laysBack) (fun M197 h197 => ?_)
      subst h197
      refine f_iload_n hZ dX7_judge_200 rfl ?_
      exact f_retI hZ hR dX7_judge_201 rfl (by first | omega | (rw [htd]; omega)) (by rw [hF.back]; exact Or.inr (Or.inr (Or.inr ⟨hs4, h84, hmod, by omega, rfl⟩)))
    · refine f_iload_n hZ dX7_judge_60 rfl ?_
      refine f_iconst hZ dX7_judge_61 ?_
      refine f_ine (tgt := 196) hZ dX7_judge_62 rfl (by first | omega | (rw [htd]; omega)) (by first | omega | (rw [htd]; omega)) (fun h62 => ?_) (fun h62 => ?_)
      · refine f_aload_n hZ dX7_judge_196 rfl ?_
        refine vX7_352 hZ dX7_judge_197 (t_X7_laysBack) (fun M197 h197 => ?_)
        subst h197
        refine f_iload_n hZ dX7_judge_200 rfl ?_
        exact f_retI hZ hR dX7_judge_201 rfl (by first | omega | (rw [htd]; omega)) (by rw [hF.back]; exact Or.inr (Or.inr (Or.inr ⟨hs4, h84, hmod, by omega, rfl⟩)))
      · exfalso; omega
  have loop : ∀ (m : Nat) (k now : Int) (N : fM), (0 ≤ s ∧ s < 4) → M 84 s = 1 → (0 ≤ M 86 s ∧ M 86 s ≤ 40) → M 86 s % 3 = 0 → 0 ≤ k → k + m = M 86 s / 3 → (0 ≤ now ∧ now ≤ 250) → JF M N → WfM N → jdg (M 59 12) (M 59 13) (M 63) (M 64) (fun k => M 87 (40 * s + 3 * k)) (fun k => M 87 (40 * s + 3 * k + 1)) (fun k => M 87 (40 * s + 3 * k + 2)) m k now (N 65) (N 66) = jdg (M 59 12) (M 59 13) (M 63) (M 64) (fun k => M 87 (40 * s + 3 * k)) (fun k => M 87 (40 * s + 3 * k + 1)) (fun k => M 87 (40 * s + 3 * k + 2)) (M 86 s / 3).toNat 0 0 (M 65) (M 66) → fG X mX7_judge Z 47 [.ref (xa X 59), .int (iv s), .int (iv (-1)), .int (iv now), .int (iv k), .null, .null, .null, .null] [] N := by
    intro m
    induction m with
    | zero =>
      intro k now N hs4 h84 h86 hmod hk0 hkm hnow hF hWN hJ
      have hJ0 : -1 = jdg (M 59 12) (M 59 13) (M 63) (M 64) (fun k => M 87 (40 * s + 3 * k)) (fun k => M 87 (40 * s + 3 * k + 1)) (fun k => M 87 (40 * s + 3 * k + 2)) (M 86 s / 3).toNat 0 0 (M 65) (M 66) := hJ
      have e12 : N 59 12 = M 59 12 := hF 59 12 (by omega) (by omega)
      have e13 : N 59 13 = M 59 13 := hF 59 13 (by omega) (by omega)
      have e63 : N 63 = M 63 := funext fun i => hF 63 i (by omega) (by omega)
      have e64 : N 64 = M 64 := funext fun i => hF 64 i (by omega) (by omega)
      have e86 : N 86 = M 86 := funext fun i => hF 86 i (by omega) (by omega)
      have e87 : N 87 = M 87 := funext fun i => hF 87 i (by omega) (by omega)
      have htd : (M 86 s).tdiv 3 = M 86 s / 3 := tdiv3 (by omega)
      refine f_iload hZ dX7_judge_47 rfl ?_
      refine f_aload_n hZ dX7_judge_49 rfl ?_
      refine gX7_97 hZ dX7_judge_50 ?_
      refine f_iload_n hZ dX7_judge_53 rfl ?_
      refine f_iaload hZ dX7_judge_54 (by first | rfl | exact hC.t1 | exact hC.t2 | exact hC.t3 | exact hC.t4 | exact hC.t5) (by first | rfl | exact hC.l1 | exact hC.l2 | exact hC.l3 | exact hC.l4 | exact hC.l5) (by first | omega | (rw [htd]; omega)) (by first | omega | (rw [htd]; omega)) (fun r54 => ?_)
      try simp only [e86] at r54 ⊢
      refine f_iconst hZ dX7_judge_55 ?_
      refine f_idiv hZ dX7_judge_56 (by first | omega | (rw [htd]; omega)) (by first | omega | (rw [htd]; omega)) (by first | omega | (rw [htd]; omega)) (by first | omega | (rw [htd]; omega)) ?_
      refine f_ige (tgt := 196) hZ dX7_judge_57 rfl (by first | omega | (rw [htd]; omega)) (by first | omega | (rw [htd]; omega)) (fun h57 => ?_) (fun h57 => ?_)
      · refine f_aload_n hZ dX7_judge_196 rfl ?_
        refine vX7_352 hZ dX7_judge_197 (t_X7_laysBack) (fun M197 h197 => ?_)
        subst h197
        refine f_iload_n hZ dX7_judge_200 rfl ?_
        exact f_retI hZ hR dX7_judge_201 rfl (by first | omega | (rw [htd]; omega)) (by rw [hF.back]; exact Or.inr (Or.inr (Or.inr ⟨hs4, h84, hmod, by omega, rfl⟩)))
      · exfalso; omega
    | succ m ih =>
      intro k now N hs4 h84 h86 hmod hk0 hkm hnow hF hWN hJ
      have e12 : N 59 12 = M 59 12 := hF 59 12 (by omega) (by omega)
      have e13 : N 59 13 = M 59 13 := hF 59 13 (by omega) (by omega)
      have e63 : N 63 = M 63 := funext fun i => hF 63 i (by omega) (by omega)
      have e64 : N 64 = M 64 := funext fun i => hF 64 i (by omega) (by omega)
      have e86 : N 86 = M 86 := funext fun i => hF 86 i (by omega) (by omega)
      have e87 : N 87 = M 87 := funext fun i => hF 87 i (by omega) (by omega)
      have htd : (M 86 s).tdiv 3 = M 86 s / 3 := tdiv3 (by omega)
      rw [jdg_succ] at hJ
      refine f_iload hZ dX7_judge_47 rfl ?_
      refine f_aload_n hZ dX7_judge_49 rfl ?_
      refine gX7_97 hZ dX7_judge_50 ?_
      refine f_iload_n hZ dX7_judge_53 rfl ?_
      refine f_iaload hZ dX7_judge_54 (by first | rfl | exact hC.t1 | exact hC.t2 | exact hC.t3 | exact hC.t4 | exact hC.t5) (by first | rfl | exact hC.l1 | exact hC.l2 | exact hC.l3 | exact hC.l4 | exact hC.l5) (by first | omega | (rw [htd]; omega)) (by first | omega | (rw [htd]; omega)) (fun r54 => ?_)
      try simp only [e86, e87] at r54 ⊢
      refine f_iconst hZ dX7_judge_55 ?_
      refine f_idiv hZ dX7_judge_56 (by first | omega | (rw [htd]; omega)) (by first | omega | (rw [htd]; omega)) (by first | omega | (rw [htd]; omega)) (by first | omega | (rw [htd]; omega)) ?_
      refine f_ige (tgt := 196) hZ dX7_judge_57 rfl (by first | omega | (rw [htd]; omega)) (by first | omega | (rw [htd]; omega)) (fun h57 => ?_) (fun h57 => ?_)
      · exfalso; omega
      · refine f_iload_n hZ dX7_judge_60 rfl ?_
        refine f_iconst hZ dX7_judge_61 ?_
        refine f_ine (tgt := 196) hZ dX7_judge_62 rfl (by first | omega | (rw [htd]; omega)) (by first | omega | (rw [htd]; omega)) (fun h62 => ?_) (fun h62 => ?_)
        · exfalso; omega
        · refine f_bipush hZ dX7_judge_65 ?_
          refine f_iload_n hZ dX7_judge_67 rfl ?_
          refine f_imul hZ dX7_judge_68 ?_
          refine f_iconst hZ dX7_judge_69 ?_
          refine f_iload hZ dX7_judge_70 rfl ?_
          refine f_imul hZ dX7_judge_72 ?_
          refine f_iadd hZ dX7_judge_73 ?_
          refine f_istore (L' := [_, _, _, _, _, _, _, _, _]) hZ dX7_judge_74 rfl rfl ?_
          refine f_aload_n hZ dX7_judge_76 rfl ?_
          refine gX7_100 hZ dX7_judge_77 ?_
          refine f_iload hZ dX7_judge_80 rfl ?_
          refine f_iaload hZ dX7_judge_82 (by first | rfl | exact hC.t1 | exact hC.t2 | exact hC.t3 | exact hC.t4 | exact hC.t5) (by first | rfl | exact hC.l1 | exact hC.l2 | exact hC.l3 | exact hC.l4 | exact hC.l5) (by first | omega | (rw [htd]; omega)) (by first | omega | (rw [htd]; omega)) (fun r82 => ?_)
          try simp only [e86, e87] at r82 ⊢
          refine f_istore (L' := [_, _, _, _, _, _, _, _, _]) hZ dX7_judge_83 rfl rfl ?_
          refine f_aload_n hZ dX7_judge_85 rfl ?_
          refine gX7_100 hZ dX7_judge_86 ?_
          refine f_iload hZ dX7_judge_89 rfl ?_
          refine f_iconst hZ dX7_judge_91 ?_
          refine f_iadd hZ dX7_judge_92 ?_
          refine f_iaload hZ dX7_judge_93 (by first | rfl | exact hC.t1 | exact hC.t2 | exact hC.t3 | exact hC.t4 | exact hC.t5) (by first | rfl | exact hC.l1 | exact hC.l2 | exact hC.l3 | exact hC.l4 | exact hC.l5) (by first | omega | (rw [htd]; omega)) (by first | omega | (rw [htd]; omega)) (fun r93 => ?_)
          try simp only [e86, e87] at r93 ⊢
          refine f_istore (L' := [_, _, _, _, _, _, _, _, _]) hZ dX7_judge_94 rfl rfl ?_
          refine f_aload_n hZ dX7_judge_96 rfl ?_
          refine gX7_100 hZ dX7_judge_97 ?_
          refine f_iload hZ dX7_judge_100 rfl ?_
          refine f_iconst hZ dX7_judge_102 ?_
          refine f_iadd hZ dX7_judge_103 ?_
          refine f_iaload hZ dX7_judge_104 (by first | rfl | exact hC.t1 | exact hC.t2 | exact hC.t3 | exact hC.t4 | exact hC.t5) (by first | rfl | exact hC.l1 | exact hC.l2 | exact hC.l3 | exact hC.l4 | exact hC.l5) (by first | omega | (rw [htd]; omega)) (by first | omega | (rw [htd]; omega)) (fun r104 => ?_)
          try simp only [e86, e87] at r104 ⊢
          refine f_istore (L' := [_, _, _, _, _, _, _, _, _]) hZ dX7_judge_105 rfl rfl ?_
          refine f_iload hZ dX7_judge_107 rfl ?_
          refine f_i2l hZ dX7_judge_109 (by first | omega | (rw [htd]; omega)) ?_
          refine f_iload_n hZ dX7_judge_110 rfl ?_
          refine f_i2l hZ dX7_judge_111 (by first | omega | (rw [htd]; omega)) ?_
          refine f_ldc2 (v := (250 : Int64)) hZ (250) dX7_judge_112 (tb_in 1130 (by decide +kernel) (by decide +kernel)) (by decide) ?_
          refine sX7_113 hZ dX7_judge_115 (t_X7_in (by omega) (by omega) (by omega)) (fun a115 M115 r115 h115 => ?_)
          obtain ⟨e115, h115⟩ := h115
          replace e115 := e115.symm
          subst e115
          refine f_eq (tgt := 143) hZ dX7_judge_118 rfl (by first | omega | (rw [htd]; omega)) (fun h118 => ?_) (fun h118 => ?_)
          · refine f_iload hZ dX7_judge_143 rfl ?_
            refine f_istore_n (L' := [_, _, _, _, _, _, _, _, _]) hZ dX7_judge_145 rfl rfl ?_
            refine f_goto (tgt := 190) hZ dX7_judge_146 rfl ?_
            refine f_iinc (L' := [_, _, _, _, _, _, _, _, _]) hZ dX7_judge_190 rfl rfl ?_
            refine f_goto (tgt := 47) hZ dX7_judge_193 rfl ?_
            refine f_forget (L' := [_, _, _, _, _, .null, .null, .null, .null]) ⟨Or.inl rfl, Or.inl rfl, Or.inl rfl, Or.inl rfl, Or.inl rfl, Or.inr rfl, Or.inr rfl, Or.inr rfl, Or.inr rfl, trivial⟩ ?_
            first
              | (rw [if_pos (by omega)] at hJ; exact exitF (k + 1) k now N hs4 h84 h86 hmod (by omega) (by omega) (by omega) hJ hF)
              | (rw [if_neg (by omega), if_neg (by omega)] at hJ; exact exitF (k + 1) k _ _ hs4 h84 h86 hmod (by omega) (by omega) (by omega) hJ (hF.burn (by omega)))
              | (rw [if_neg (by omega), if_pos (by omega)] at hJ; exact ih (k + 1) _ _ hs4 h84 h86 hmod (by omega) (by omega) (by omega) ((hF.burn (by omega)).lit (by omega)) (hWB.lit (by omega) (by omega)) (by rw [up_upI, up_ne (by decide), hPe, hLe]; exact hJ))
          · refine f_aload_n hZ dX7_judge_121 rfl ?_
            refine f_iload hZ dX7_judge_122 rfl ?_
            refine vX7_123 hZ dX7_judge_124 (t_X7_isWick (by omega) hWN.1) (fun a124 M124 r124 h124 => ?_)
            obtain ⟨e124, h124⟩ := h124
            replace e124 := e124.symm
            subst e124
            refine f_eq (tgt := 143) hZ dX7_judge_127 rfl (by first | omega | (rw [htd]; omega)) (fun h127 => ?_) (fun h127 => ?_)
            · refine f_iload hZ dX7_judge_143 rfl ?_
              refine f_istore_n (L' := [_, _, _, _, _, _, _, _, _]) hZ dX7_judge_145 rfl rfl ?_
              refine f_goto (tgt := 190) hZ dX7_judge_146 rfl ?_
              refine f_iinc (L' := [_, _, _, _, _, _, _, _, _]) hZ dX7_judge_190 rfl rfl ?_
              refine f_goto (tgt := 47) hZ dX7_judge_193 rfl ?_
              refine f_forget (L' := [_, _, _, _, _, .null, .null, .null, .null]) ⟨Or.inl rfl, Or.inl rfl, Or.inl rfl, Or.inl rfl, Or.inl rfl, Or.inr rfl, Or.inr rfl, Or.inr rfl, Or.inr rfl, trivial⟩ ?_
              first
                | (rw [if_pos (by omega)] at hJ; exact exitF (k + 1) k now N hs4 h84 h86 hmod (by omega) (by omega) (by omega) hJ hF)
                | (rw [if_neg (by omega), if_neg (by omega)] at hJ; exact exitF (k + 1) k _ _ hs4 h84 h86 hmod (by omega) (by omega) (by omega) hJ (hF.burn (by omega)))
                | (rw [if_neg (by omega), if_pos (by omega)] at hJ; exact ih (k + 1) _ _ hs4 h84 h86 hmod (by omega) (by omega) (by omega) ((hF.burn (by omega)).lit (by omega)) (hWB.lit (by omega) (by omega)) (by rw [up_upI, up_ne (by decide), hPe, hLe]; exact hJ))
            · refine f_iload hZ dX7_judge_130 rfl ?_
              refine f_i2l hZ dX7_judge_132 (by first | omega | (rw [htd]; omega)) ?_
              refine f_lconst1 hZ dX7_judge_133 ?_
              refine f_ldc2 (v := (2 : Int64)) hZ (2) dX7_judge_134 (tb_in 1018 (by decide +kernel) (by decide +kernel)) (by decide) ?_
              refine sX7_113 hZ dX7_judge_137 (t_X7_in (by omega) (by omega) (by omega)) (fun a137 M137 r137 h137 => ?_)
              obtain ⟨e137, h137⟩ := h137
              replace e137 := e137.symm
              subst e137
              refine f_ne (tgt := 149) hZ dX7_judge_140 rfl (by first | omega | (rw [htd]; omega)) (fun h140 => ?_) (fun h140 => ?_)
              · refine f_aload_n hZ dX7_judge_149 rfl ?_
                refine f_iload hZ dX7_judge_150 rfl ?_
                refine f_iload_n hZ dX7_judge_152 rfl ?_
                refine f_isub hZ dX7_judge_153 ?_
                refine vX7_280 hZ dX7_judge_154 (t_X7_burns (by omega) hWN) (fun a154 M154 r154 h154 => ?_)
                obtain ⟨-, rfl⟩ := h154
                have hWB : WfM (up (bMm N (M 87 (40 * s + 3 * k) - now) (N 59 12)) 59 14 (min 9999 (N 59 14 + (M 87 (40 * s + 3 * k) - now)))) := hWN.burn (by omega) (by have := hWN.2.2.1; omega)
                have hPe : (up (bMm N (M 87 (40 * s + 3 * k) - now) (N 59 12)) 59 14 (min 9999 (N 59 14 + (M 87 (40 * s + 3 * k) - now)))) 65 = bPa (M 59 12) (M 63) (M 64) (N 65) (N 66) (M 59 13) (M 87 (40 * s + 3 * k) - now) := by rw [up_ne (by decide), bMm_P, e12, e13, e63, e64]
                have hLe : (up (bMm N (M 87 (40 * s + 3 * k) - now) (N 59 12)) 59 14 (min 9999 (N 59 14 + (M 87 (40 * s + 3 * k) - now)))) 66 = bLa (M 59 12) (M 63) (M 64) (N 65) (N 66) (M 59 13) (M 87 (40 * s + 3 * k) - now) := by rw [up_ne (by decide), bMm_L, e12, e13, e63, e64]
                have hqB := hWB.2.2.2 (M 87 (40 * s + 3 * k + 1)) (by omega) (by rw [up_app, if_neg (by omega), bMm_59]; omega)
                have hl2 := hqB.2.2.2.1
                have hWBn : N 59 12 ≤ 4 := hWN.1.2
                refine f_pop hZ dX7_judge_157 rfl ?_
                refine f_iload hZ dX7_judge_158 rfl ?_
                refine f_istore_n (L' := [_, _, _, _, _, _, _, _, _]) hZ dX7_judge_160 rfl rfl ?_
                refine f_aload_n hZ dX7_judge_161 rfl ?_
                refine f_iload hZ dX7_judge_162 rfl ?_
                refine f_iload hZ dX7_judge_164 rfl ?_
                refine vX7_275 hZ dX7_judge_166 (t_X7_canLight (by omega) hl2 (by omega)) (fun a166 M166 r166 h166 => ?_)
                obtain ⟨e166, h166⟩ := h166
                replace e166 := e166.symm
                subst e166
                have hcl2 := h166
                rw [hPe, hLe] at h166
                refine f_eq (tgt := 187) hZ dX7_judge_169 rfl (by first | omega | (rw [htd]; omega)) (fun h169 => ?_) (fun h169 => ?_)
                · refine f_iload hZ dX7_judge_187 rfl ?_
                  refine f_istore_n (L' := [_, _, _, _, _, _, _, _, _]) hZ dX7_judge_189 rfl rfl ?_
                  refine f_iinc (L' := [_, _, _, _, _, _, _, _, _]) hZ dX7_judge_190 rfl rfl ?_
                  refine f_goto (tgt := 47) hZ dX7_judge_193 rfl ?_
                  refine f_forget (L' := [_, _, _, _, _, .null, .null, .null, .null]) ⟨Or.inl rfl, Or.inl rfl, Or.inl rfl, Or.inl rfl, Or.inl rfl, Or.inr rfl, Or.inr rfl, Or.inr rfl, Or.inr rfl, trivial⟩ ?_
                  first
                    | (rw [if_pos (by omega)] at hJ; exact exitF (k + 1) k now N hs4 h84 h86 hmod (by omega) (by omega) (by omega) hJ hF)
                    | (rw [if_neg (by omega), if_neg (by omega)] at hJ; exact exitF (k + 1) k _ _ hs4 h84 h86 hmod (by omega) (by omega) (by omega) hJ (hF.burn (by omega)))
                    | (rw [if_neg (by omega), if_pos (by omega)] at hJ; exact ih (k + 1) _ _ hs4 h84 h86 hmod (by omega) (by omega) (by omega) ((hF.burn (by omega)).lit (by omega)) (hWB.lit (by omega) (by omega)) (by rw [up_upI, up_ne (by decide), hPe, hLe]; exact hJ))
                · refine f_aload_n hZ dX7_judge_172 rfl ?_
                  refine gX7_32 hZ dX7_judge_173 ?_
                  refine f_iload hZ dX7_judge_176 rfl ?_
                  refine f_dup2 hZ dX7_judge_178 rfl rfl ?_
                  refine f_iaload hZ dX7_judge_179 (by first | rfl | exact hC.t1 | exact hC.t2 | exact hC.t3 | exact hC.t4 | exact hC.t5) (by first | rfl | exact hC.l1 | exact hC.l2 | exact hC.l3 | exact hC.l4 | exact hC.l5) (by first | omega | (rw [htd]; omega)) (by first | omega | (rw [htd]; omega)) (fun r179 => ?_)
                  try simp only [e86, e87] at r179 ⊢
                  refine f_iload hZ dX7_judge_180 rfl ?_
                  refine f_iadd hZ dX7_judge_182 ?_
                  refine f_iastore hZ dX7_judge_183 (by first | rfl | exact hC.t1 | exact hC.t2 | exact hC.t3 | exact hC.t4 | exact hC.t5) (by first | rfl | exact hC.l1 | exact hC.l2 | exact hC.l3 | exact hC.l4 | exact hC.l5) (by first | omega | (rw [htd]; omega)) (by first | omega | (rw [htd]; omega)) (by first | omega | (rw [htd]; omega)) ?_
                  refine f_goto (tgt := 190) hZ dX7_judge_184 rfl ?_
                  refine f_iinc (L' := [_, _, _, _, _, _, _, _, _]) hZ dX7_judge_190 rfl rfl ?_
                  refine f_goto (tgt := 47) hZ dX7_judge_193 rfl ?_
                  refine f_forget (L' := [_, _, _, _, _, .null, .null, .null, .null]) ⟨Or.inl rfl, Or.inl rfl, Or.inl rfl, Or.inl rfl, Or.inl rfl, Or.inr rfl, Or.inr rfl, Or.inr rfl, Or.inr rfl, trivial⟩ ?_
                  first
                    | (rw [if_pos (by omega)] at hJ; exact exitF (k + 1) k now N hs4 h84 h86 hmod (by omega) (by omega) (by omega) hJ hF)
                    | (rw [if_neg (by omega), if_neg (by omega)] at hJ; exact exitF (k + 1) k _ _ hs4 h84 h86 hmod (by omega) (by omega) (by omega) hJ (hF.burn (by omega)))
                    | (rw [if_neg (by omega), if_pos (by omega)] at hJ; exact ih (k + 1) _ _ hs4 h84 h86 hmod (by omega) (by omega) (by omega) ((hF.burn (by omega)).lit (by omega)) (hWB.lit (by omega) (by omega)) (by rw [up_upI, up_ne (by decide), hPe, hLe]; exact hJ))
              · refine f_iload hZ dX7_judge_143 rfl ?_
                refine f_istore_n (L' := [_, _, _, _, _, _, _, _, _]) hZ dX7_judge_145 rfl rfl ?_
                refine f_goto (tgt := 190) hZ dX7_judge_146 rfl ?_
                refine f_iinc (L' := [_, _, _, _, _, _, _, _, _]) hZ dX7_judge_190 rfl rfl ?_
                refine f_goto (tgt := 47) hZ dX7_judge_193 rfl ?_
                refine f_forget (L' := [_, _, _, _, _, .null, .null, .null, .null]) ⟨Or.inl rfl, Or.inl rfl, Or.inl rfl, Or.inl rfl, Or.inl rfl, Or.inr rfl, Or.inr rfl, Or.inr rfl, Or.inr rfl, trivial⟩ ?_
                first
                  | (rw [if_pos (by omega)] at hJ; exact exitF (k + 1) k now N hs4 h84 h86 hmod (by omega) (by omega) (by omega) hJ hF)
                  | (rw [if_neg (by omega), if_neg (by omega)] at hJ; exact exitF (k + 1) k _ _ hs4 h84 h86 hmod (by omega) (by omega) (by omega) hJ (hF.burn (by omega)))
                  | (rw [if_neg (by omega), if_pos (by omega)] at hJ; exact ih (k + 1) _ _ hs4 h84 h86 hmod (by omega) (by omega) (by omega) ((hF.burn (by omega)).lit (by omega)) (hWB.lit (by omega) (by omega)) (by rw [up_upI, up_ne (by decide), hPe, hLe]; exact hJ))
  refine f_iload_n hZ dX7_judge_0 rfl ?_
  refine sX7_346 hZ dX7_judge_1 (t_X7_isSheet (by omega)) (fun a1 M1 r1 h1 => ?_)
  obtain ⟨e1, h1⟩ := h1
  replace e1 := e1.symm
  subst e1
  refine f_ne (tgt := 10) hZ dX7_judge_4 rfl (by first | omega | (rw [htm]; omega)) (fun h4 => ?_) (fun h4 => ?_)
  · have hq := hT s (by omega) (by omega)
    refine f_aload_n hZ dX7_judge_10 rfl ?_
    refine gX7_90 hZ dX7_judge_11 ?_
    refine f_iload_n hZ dX7_judge_14 rfl ?_
    refine f_baload hZ dX7_judge_15 (by first | rfl | exact hC.t1 | exact hC.t2 | exact hC.t3 | exact hC.t4 | exact hC.t5) (by first | rfl | exact hC.l1 | exact hC.l2 | exact hC.l3 | exact hC.l4 | exact hC.l5) (by first | omega | (rw [htm]; omega)) (by first | omega | (rw [htm]; omega)) (fun r15 => ?_)
    refine f_ne (tgt := 22) hZ dX7_judge_16 rfl (by first | omega | (rw [htm]; omega)) (fun h16 => ?_) (fun h16 => ?_)
    · have hq2 := hq.2 (by omega)
      have htm : (M 86 s).tmod 3 = M 86 s % 3 := Int.tmod_eq_emod_of_nonneg (by omega)
      refine f_aload_n hZ dX7_judge_22 rfl ?_
      refine gX7_97 hZ dX7_judge_23 ?_
      refine f_iload_n hZ dX7_judge_26 rfl ?_
      refine f_iaload hZ dX7_judge_27 (by first | rfl | exact hC.t1 | exact hC.t2 | exact hC.t3 | exact hC.t4 | exact hC.t5) (by first | rfl | exact hC.l1 | exact hC.l2 | exact hC.l3 | exact hC.l4 | exact hC.l5) (by first | omega | (rw [htm]; omega)) (by first | omega | (rw [htm]; omega)) (fun r27 => ?_)
      refine f_iconst hZ dX7_judge_28 ?_
      refine f_irem hZ dX7_judge_29 (by first | omega | (rw [htm]; omega)) (by first | omega | (rw [htm]; omega)) (by first | omega | (rw [htm]; omega)) (by first | omega | (rw [htm]; omega)) ?_
      refine f_eq (tgt := 36) hZ dX7_judge_30 rfl (by first | omega | (rw [htm]; omega)) (fun h30 => ?_) (fun h30 => ?_)
      · refine f_aload_n hZ dX7_judge_36 rfl ?_
        refine vX7_349 hZ dX7_judge_37 (t_X7_laysAside) (fun M37 h37 => ?_)
        subst h37
        refine f_iconst hZ dX7_judge_40 ?_
        refine f_istore_n (L' := [_, _, _, _, _, _, _, _, _]) hZ dX7_judge_41 rfl rfl ?_
        refine f_iconst hZ dX7_judge_42 ?_
        refine f_istore_n (L' := [_, _, _, _, _, _, _, _, _]) hZ dX7_judge_43 rfl rfl ?_
        refine f_iconst hZ dX7_judge_44 ?_
        refine f_istore (L' := [_, _, _, _, _, _, _, _, _]) hZ dX7_judge_45 rfl rfl ?_
        exact loop (M 86 s / 3).toNat 0 0 (asideM M) (by omega) (by omega) (by omega) (by omega) (by omega) (by omega) (by omega) (fun _ _ _ _ => rfl) hW rfl
      · refine f_bipush hZ dX7_judge_33 ?_
        exact f_retI hZ hR dX7_judge_35 rfl (by first | omega | (rw [htm]; omega)) (by first | exact Or.inl ⟨by omega, rfl, rfl⟩ | exact Or.inr (Or.inl ⟨by omega, by omega, rfl, rfl⟩) | exact Or.inr (Or.inr (Or.inl ⟨by omega, by omega, by omega, rfl, rfl⟩)))
    · refine f_bipush hZ dX7_judge_19 ?_
      exact f_retI hZ hR dX7_judge_21 rfl (by first | omega | (rw [htm]; omega)) (by first | exact Or.inl ⟨by omega, rfl, rfl⟩ | exact Or.inr (Or.inl ⟨by omega, by omega, rfl, rfl⟩) | exact Or.inr (Or.inr (Or.inl ⟨by omega, by omega, by omega, rfl, rfl⟩)))
  · refine f_bipush hZ dX7_judge_7 ?_
    exact f_retI hZ hR dX7_judge_9 rfl (by first | omega | (rw [htm]; omega)) (by first | exact Or.inl ⟨by omega, rfl, rfl⟩ | exact Or.inr (Or.inl ⟨by omega, by omega, rfl, rfl⟩) | exact Or.inr (Or.inr (Or.inl ⟨by omega, by omega, by omega, rfl, rfl⟩)))

theorem bMc_P {N : fM} {c : Nat} {t k : Int} : bMc N c t k (c + 3) = bPa k (N (c + 1)) (N (c + 2)) (N (c + 3)) (N (c + 4)) (N c 6) t := by funext i; unfold bMc burnG bPa; simp
theorem bMc_L {N : fM} {c : Nat} {t k : Int} : bMc N c t k (c + 4) = bLa k (N (c + 1)) (N (c + 2)) (N (c + 3)) (N (c + 4)) (N c 6) t := by funext i; unfold bMc burnG bLa; simp
abbrev foM (N : fM) (t : Int) : fM := up (bMc N 13 t (N 13 5)) 13 7 (min 9999 (N 13 7 + t))
theorem foM_P {N : fM} {t : Int} : foM N t 16 = bPa (N 13 5) (N 14) (N 15) (N 16) (N 17) (N 13 6) t := by
  show up (bMc N 13 t (N 13 5)) 13 7 _ 16 = _
  rw [up_ne (by decide)]; exact bMc_P
theorem foM_L {N : fM} {t : Int} : foM N t 17 = bLa (N 13 5) (N 14) (N 15) (N 16) (N 17) (N 13 6) t := by
  show up (bMc N 13 t (N 13 5)) 13 7 _ 17 = _
  rw [up_ne (by decide)]; exact bMc_L
theorem WfC.burn {N : fM} (h : WfC N 13) {t : Int} (ht : 0 ≤ t ∧ t ≤ 250) : WfC (foM N t) 13 := by
  obtain ⟨h1, h2, h3, h4⟩ := h
  have e1 : foM N t 13 5 = N 13 5 := by show up (bMc N 13 t (N 13 5)) 13 7 _ 13 5 = _; rw [up_app, if_neg (by omega), bMc_f]
  have e2 : foM N t 13 6 = N 13 6 := by show up (bMc N 13 t (N 13 5)) 13 7 _ 13 6 = _; rw [up_app, if_neg (by omega), bMc_f]
  refine ⟨by rw [e1]; exact h1, by rw [e2]; exact h2, ?_, ?_⟩
  · show 0 ≤ min 9999 (N 13 7 + t) ∧ min 9999 (N 13 7 + t) ≤ 9999
    omega
  · rw [e1]
    exact WfA.burn (by decide) (by decide) (by decide) rfl rfl rfl rfl rfl ht h2 h4
theorem WfC.lit {N : fM} (h : WfC N 13) {w v : Int} (hp : 0 < N 16 w) (hv : 0 ≤ v ∧ v ≤ 2) : WfC (up N 17 w v) 13 := by
  obtain ⟨h1, h2, h3, h4⟩ := h
  have e : up N 17 w v 17 = updI (N 17) w v := up_upI
  refine ⟨h1, h2, h3, ?_⟩
  show WfA (N 13 5) (N 14) (N 15) (N 16) (up N 17 w v 17) (N 18)
  rw [e]
  exact h4.lit hp hv
def JK (M N : fM) : Prop := ∀ (c : Nat), ¬ (13 ≤ c ∧ c ≤ 18) → N c = M c
theorem JK.burn {M N : fM} (h : JK M N) {t : Int} : JK M (foM N t) := fun c hc => by
  rw [← h c hc]
  show up (bMc N 13 t (N 13 5)) 13 7 _ c = _
  rw [up_ne (by omega)]
  funext i
  exact burnG_ne (by omega)
theorem JK.lit {M N : fM} (h : JK M N) {w v : Int} : JK M (up N 17 w v) := fun c hc => by rw [← h c hc, up_ne (by omega)]
set_option maxRecDepth 20000 in
set_option maxHeartbeats 4000000 in
theorem t_X6_follows {X : fX} {N : fM} {d : Nat} {s i now : Int} (hs : 0 ≤ s ∧ s < 4) (hr : reachP N s i 3) (hnow : 0 ≤ now ∧ now ≤ 250) (hW : WfS N) (hC : WfC N 13) : fC X (d + 4) mX6_follows [.ref (xa X 0), .int (iv s), .int (iv i), .int (iv now)] N (QI fun r M' => (¬ jok (N 13 5) now (N (51 + s.toNat) i) (N (51 + s.toNat) (i + 1)) (N (51 + s.toNat) (i + 2)) ∧ r = 0 ∧ M' = N) ∨ (jok (N 13 5) now (N (51 + s.toNat) i) (N (51 + s.toNat) (i + 1)) (N (51 + s.toNat) (i + 2)) ∧ ¬ (0 < foM N ((N (51 + s.toNat) i) - now) 16 (N (51 + s.toNat) (i + 1)) ∧ foM N ((N (51 + s.toNat) i) - now) 17 (N (51 + s.toNat) (i + 1)) + (N (51 + s.toNat) (i + 2)) ≤ 2) ∧ r = 0 ∧ M' = foM N ((N (51 + s.toNat) i) - now)) ∨ (jok (N 13 5) now (N (51 + s.toNat) i) (N (51 + s.toNat) (i + 1)) (N (51 + s.toNat) (i + 2)) ∧ (0 < foM N ((N (51 + s.toNat) i) - now) 16 (N (51 + s.toNat) (i + 1)) ∧ foM N ((N (51 + s.toNat) i) - now) 17 (N (51 + s.toNat) (i + 1)) + (N (51 + s.toNat) (i + 2)) ≤ 2) ∧ r = 1 ∧ M' = up (foM N ((N (51 + s.toNat) i) - now)) 17 (N (51 + s.toNat) (i + 1)) (foM N ((N (51 + s.toNat) i) - now) 17 (N (51 + s.toNat) (i + 1)) + (N (51 + s.toNat) (i + 2))))) := by
  refine fC.of (L := [_, _, _, _, _, _, _]) (by decide +kernel) rfl (Nat.le_of_ble_eq_true rfl) (fun Z hZ hR => ?_)
  have hq := hW s hs.1 hs.2
  refine f_aload_n hZ dX6_follows_0 rfl ?_
  refine gX6_41 hZ dX6_follows_1 ?_
  refine f_iload_n hZ dX6_follows_4 rfl ?_
  refine f_iload_n hZ dX6_follows_5 rfl ?_
  refine vX6_200 hZ dX6_follows_6 (t_X3_item (by omega) (by omega) hW) (fun a6 M6 r6 h6 => ?_)
  obtain ⟨e6, h6⟩ := h6
  replace e6 := e6.symm
  subst e6
  replace h6 : a6 = N (51 + s.toNat) (i) := by omega
  subst h6
  refine f_istore (L' := [_, _, _, _, _, _, _]) hZ dX6_follows_9 rfl rfl ?_
  refine f_aload_n hZ dX6_follows_11 rfl ?_
  refine gX6_41 hZ dX6_follows_12 ?_
  refine f_iload_n hZ dX6_follows_15 rfl ?_
  refine f_iload_n hZ dX6_follows_16 rfl ?_
  refine f_iconst hZ dX6_follows_17 ?_
  refine f_iadd hZ dX6_follows_18 ?_
  refine vX6_200 hZ dX6_follows_19 (t_X3_item (by omega) (by omega) hW) (fun a19 M19 r19 h19 => ?_)
  obtain ⟨e19, h19⟩ := h19
  replace e19 := e19.symm
  subst e19
  replace h19 : a19 = N (51 + s.toNat) (i + 1) := by omega
  subst h19
  refine f_istore (L' := [_, _, _, _, _, _, _]) hZ dX6_follows_22 rfl rfl ?_
  refine f_aload_n hZ dX6_follows_24 rfl ?_
  refine gX6_41 hZ dX6_follows_25 ?_
  refine f_iload_n hZ dX6_follows_28 rfl ?_
  refine f_iload_n hZ dX6_follows_29 rfl ?_
  refine f_iconst hZ dX6_follows_30 ?_
  refine f_iadd hZ dX6_follows_31 ?_
  refine vX6_200 hZ dX6_follows_32 (t_X3_item (by omega) (by omega) hW) (fun a32 M32 r32 h32 => ?_)
  obtain ⟨e32, h32⟩ := h32
  replace e32 := e32.symm
  subst e32
  replace h32 : a32 = N (51 + s.toNat) (i + 2) := by omega
  subst h32
  refine f_istore (L' := [_, _, _, _, _, _, _]) hZ dX6_follows_35 rfl rfl ?_
  refine f_iload hZ dX6_follows_37 rfl ?_
  refine f_iload_n hZ dX6_follows_39 rfl ?_
  refine f_sipush hZ dX6_follows_40 ?_
  refine sX6_56 hZ dX6_follows_43 (t_X6_within (by omega) (by omega) (by omega)) (fun a43 M43 r43 h43 => ?_)
  obtain ⟨e43, h43⟩ := h43
  replace e43 := e43.symm
  subst e43
  refine f_eq (tgt := 71) hZ dX6_follows_46 rfl (by first | omega | (rcases h93 with ⟨x1, -⟩ | ⟨x1, -⟩ <;> omega)) (fun h46 => ?_) (fun h46 => ?_)
  · refine f_iconst hZ dX6_follows_71 ?_
    exact f_retZ hZ hR dX6_follows_72 rfl (by first | omega | (rcases h93 with ⟨x1, -⟩ | ⟨x1, -⟩ <;> omega)) (by first | exact Or.inl ⟨by omega, rfl, rfl⟩ | (rcases h93 with ⟨x1, x2, x3⟩ | ⟨x1, x2, x3⟩; exact Or.inr (Or.inl ⟨by omega, x2, x1, x3⟩); exact Or.inr (Or.inr ⟨by omega, x2, x1, x3⟩)))
  · refine f_aload_n hZ dX6_follows_49 rfl ?_
    refine gX6_19 hZ dX6_follows_50 ?_
    refine f_iload hZ dX6_follows_53 rfl ?_
    refine vX6_75 hZ dX6_follows_55 (by first | exact hC | exact isC1 | exact isC7 | exact isC13) (t_X0_has isC13 (by omega) hC.1) (fun a55 M55 r55 h55 => ?_)
    try simp only [Nat.reduceAdd] at h55
    obtain ⟨e55, h55⟩ := h55
    replace e55 := e55.symm
    subst e55
    refine f_eq (tgt := 71) hZ dX6_follows_58 rfl (by first | omega | (rcases h93 with ⟨x1, -⟩ | ⟨x1, -⟩ <;> omega)) (fun h58 => ?_) (fun h58 => ?_)
    · refine f_iconst hZ dX6_follows_71 ?_
      exact f_retZ hZ hR dX6_follows_72 rfl (by first | omega | (rcases h93 with ⟨x1, -⟩ | ⟨x1, -⟩ <;> omega)) (by first | exact Or.inl ⟨by omega, rfl, rfl⟩ | (rcases h93 with ⟨x1, x2, x3⟩ | ⟨x1, x2, x3⟩; exact Or.inr (Or.inl ⟨by omega, x2, x1, x3⟩); exact Or.inr (Or.inr ⟨by omega, x2, x1, x3⟩)))
    · refine f_iload hZ dX6_follows_61 rfl ?_
      refine f_iconst hZ dX6_follows_63 ?_
      refine f_iconst hZ dX6_follows_64 ?_
      refine sX6_56 hZ dX6_follows_65 (t_X6_within (by omega) (by omega) (by omega)) (fun a65 M65 r65 h65 => ?_)
      obtain ⟨e65, h65⟩ := h65
      replace e65 := e65.symm
      subst e65
      refine f_ne (tgt := 73) hZ dX6_follows_68 rfl (by first | omega | (rcases h93 with ⟨x1, -⟩ | ⟨x1, -⟩ <;> omega)) (fun h68 => ?_) (fun h68 => ?_)
      · refine f_aload_n hZ dX6_follows_73 rfl ?_
        refine gX6_19 hZ dX6_follows_74 ?_
        refine f_iload hZ dX6_follows_77 rfl ?_
        refine f_iload_n hZ dX6_follows_79 rfl ?_
        refine f_isub hZ dX6_follows_80 ?_
        refine vX6_131 hZ dX6_follows_81 (by first | exact hC | exact isC1 | exact isC7 | exact isC13) (t_X0_pass isC13 (by omega) hC) (fun a81 M81 r81 h81 => ?_)
        try simp only [Nat.reduceAdd] at h81
        obtain ⟨-, rfl⟩ := h81
        have hCB := hC.burn (t := N (51 + s.toNat) i - now) (by omega)
        have e5 : foM N (N (51 + s.toNat) i - now) 13 5 = N 13 5 := by show up (bMc N 13 _ (N 13 5)) 13 7 _ 13 5 = _; rw [up_app, if_neg (by omega), bMc_f]
        refine f_pop hZ dX6_follows_84 rfl ?_
        refine f_aload_n hZ dX6_follows_85 rfl ?_
        refine gX6_19 hZ dX6_follows_86 ?_
        refine f_iload hZ dX6_follows_89 rfl ?_
        refine f_iload hZ dX6_follows_91 rfl ?_
        refine vX6_127 hZ dX6_follows_93 (by first | exact hC | exact isC1 | exact isC7 | exact isC13) (t_X0_kindles isC13 ⟨by omega, by show _ < foM N (N (51 + s.toNat) i - now) 13 5; rw [e5]; omega⟩ (by omega) hCB.1 hCB.2.2.2) (fun a93 M93 r93 h93 => ?_)
        try simp only [Nat.reduceAdd] at h93
        exact f_retZ hZ hR dX6_follows_96 rfl (by first | omega | (rcases h93 with ⟨x1, -⟩ | ⟨x1, -⟩ <;> omega)) (by first | exact Or.inl ⟨by omega, rfl, rfl⟩ | (rcases h93 with ⟨x1, x2, x3⟩ | ⟨x1, x2, x3⟩; exact Or.inr (Or.inl ⟨by omega, x2, x1, x3⟩); exact Or.inr (Or.inr ⟨by omega, x2, x1, x3⟩)))
      · refine f_iconst hZ dX6_follows_71 ?_
        exact f_retZ hZ hR dX6_follows_72 rfl (by first | omega | (rcases h93 with ⟨x1, -⟩ | ⟨x1, -⟩ <;> omega)) (by first | exact Or.inl ⟨by omega, rfl, rfl⟩ | (rcases h93 with ⟨x1, x2, x3⟩ | ⟨x1, x2, x3⟩; exact Or.inr (Or.inl ⟨by omega, x2, x1, x3⟩); exact Or.inr (Or.inr ⟨by omega, x2, x1, x3⟩)))

theorem burnP_congr {K N P L K' N' P' L' : Int → Int} {dmp t i : Int} (h : K i = K' i ∧ N i = N' i ∧ P i = P' i ∧ L i = L' i) : burnP K N P L dmp t i = burnP K' N' P' L' dmp t i ∧ burnL K N P L dmp t i = burnL K' N' P' L' dmp t i := by
  unfold burnP burnL burnE
  rw [h.1, h.2.1, h.2.2.1, h.2.2.2]
  exact ⟨rfl, rfl⟩
theorem jdg_congr {n dmp : Int} {K N K' N' T W E : Int → Int} (hK : ∀ i, 0 ≤ i → i < n → K i = K' i ∧ N i = N' i) : ∀ (m : Nat) (row now : Int) (P L P' L' : Int → Int), (∀ i, 0 ≤ i → i < n → P i = P' i ∧ L i = L' i) → jdg n dmp K N T W E m row now P L = jdg n dmp K' N' T W E m row now P' L'
  | 0, _, _, _, _, _, _, _ => rfl
  | m + 1, row, now, P, L, P', L', h => by
    rw [jdg_succ, jdg_succ]
    have hb : ∀ i, 0 ≤ i → i < n → bPa n K N P L dmp (T row - now) i = bPa n K' N' P' L' dmp (T row - now) i ∧ bLa n K N P L dmp (T row - now) i = bLa n K' N' P' L' dmp (T row - now) i := fun i h0 h1 => by
      unfold bPa bLa
      rw [if_pos ⟨h0, h1⟩, if_pos ⟨h0, h1⟩, if_pos ⟨h0, h1⟩, if_pos ⟨h0, h1⟩]
      exact burnP_congr ⟨(hK i h0 h1).1, (hK i h0 h1).2, (h i h0 h1).1, (h i h0 h1).2⟩
    by_cases h1 : jok n now (T row) (W row) (E row)
    · rw [if_neg (show ¬ ¬ jok n now (T row) (W row) (E row) from fun q => q h1), if_neg (show ¬ ¬ jok n now (T row) (W row) (E row) from fun q => q h1)]
      have hw := hb (W row) h1.2.1.1 h1.2.1.2
      rw [hw.1, hw.2]
      split
      · refine jdg_congr hK m (row + 1) (T row) _ _ _ _ (fun i h2 h3 => ⟨(hb i h2 h3).1, ?_⟩)
        unfold updI
        split
        · rfl
        · exact (hb i h2 h3).2
      · rfl
    · rw [if_pos h1, if_pos h1]
theorem take_f {M : fM} {i : Int} (h : i = 5 ∨ i = 6 ∨ i = 7) : takeC M 13 1 13 i = M 1 i := by rcases h with rfl | rfl | rfl <;> rfl
theorem take_a {M : fM} {i : Int} (h : 0 ≤ i ∧ i < 4) : takeC M 13 1 14 i = M 2 i ∧ takeC M 13 1 15 i = M 3 i ∧ takeC M 13 1 16 i = M 4 i ∧ takeC M 13 1 17 i = M 5 i ∧ takeC M 13 1 18 i = M 6 i := by
  rcases (show i = 0 ∨ i = 1 ∨ i = 2 ∨ i = 3 by omega) with rfl | rfl | rfl | rfl <;> exact ⟨rfl, rfl, rfl, rfl, rfl⟩
theorem take_W {M : fM} (h : WfK M) : WfC (takeC M 13 1) 13 := by
  obtain ⟨h1, h2, h3, h4⟩ := h
  refine ⟨h1, h2, h3, fun i h5 h6 => ?_⟩
  have h6' : i < M 1 5 := h6
  have hq := take_a (M := M) (i := i) (by omega)
  have := h4 i h5 h6'
  show (0 ≤ takeC M 13 1 14 i ∧ takeC M 13 1 14 i ≤ 5) ∧ (0 ≤ takeC M 13 1 15 i ∧ takeC M 13 1 15 i ≤ 9) ∧ (0 ≤ takeC M 13 1 16 i ∧ takeC M 13 1 16 i ≤ 99) ∧ (0 ≤ takeC M 13 1 17 i ∧ takeC M 13 1 17 i ≤ 2) ∧ (0 ≤ takeC M 13 1 18 i ∧ takeC M 13 1 18 i ≤ 999) ∧ (takeC M 13 1 16 i = 0 → takeC M 13 1 17 i = 0)
  rw [hq.1, hq.2.1, hq.2.2.1, hq.2.2.2.1, hq.2.2.2.2]
  exact this
theorem take_JK {M : fM} : JK M (takeC M 13 1) := fun c hc => by
  funext i
  simp only [takeC, cpA, cpM, up_app]
  rw [if_neg (by omega), if_neg (by omega), if_neg (by omega), if_neg (by omega), if_neg (by omega), if_neg (by omega), if_neg (by omega), if_neg (by omega), if_neg (by omega)]
theorem foM_eq {N : fM} {t : Int} : foM N t 13 5 = N 13 5 ∧ foM N t 13 6 = N 13 6 ∧ foM N t 14 = N 14 ∧ foM N t 15 = N 15 := by
  refine ⟨?_, ?_, ?_, ?_⟩
  · show up (bMc N 13 t (N 13 5)) 13 7 _ 13 5 = _; rw [up_app, if_neg (by omega), bMc_f]
  · show up (bMc N 13 t (N 13 5)) 13 7 _ 13 6 = _; rw [up_app, if_neg (by omega), bMc_f]
  · show up (bMc N 13 t (N 13 5)) 13 7 _ 14 = _; rw [up_ne (by decide)]; funext i; exact bMc_1
  · show up (bMc N 13 t (N 13 5)) 13 7 _ 15 = _; rw [up_ne (by decide)]; funext i; exact bMc_2
set_option maxRecDepth 20000 in
set_option maxHeartbeats 4000000 in
theorem t_X6_judge {X : fX} {M : fM} {d : Nat} {s : Int} (hs : rg s) (hS : WfS M) (hW : WfK M) : fC X (d + 5) mX6_judge [.ref (xa X 0), .int (iv s)] M (QI fun r M' => (¬ (0 ≤ s ∧ s < 4) ∧ r = -2 ∧ M' = M) ∨ ((0 ≤ s ∧ s < 4) ∧ M 55 s = -1 ∧ r = -11 ∧ M' = M) ∨ ((0 ≤ s ∧ s < 4) ∧ M 55 s ≠ -1 ∧ M 56 s % 3 ≠ 0 ∧ r = -2 ∧ M' = M) ∨ ((0 ≤ s ∧ s < 4) ∧ M 55 s ≠ -1 ∧ M 56 s % 3 = 0 ∧ r = jdg (M 1 5) (M 1 6) (M 2) (M 3) (fun k => M (51 + s.toNat) (k * 3)) (fun k => M (51 + s.toNat) (k * 3 + 1)) (fun k => M (51 + s.toNat) (k * 3 + 2)) (M 56 s / 3).toNat 0 0 (M 4) (M 5) ∧ JK M M')) := by
  have hJJ : jdg (M 1 5) (M 1 6) (takeC M 13 1 14) (takeC M 13 1 15) (fun k => M (51 + s.toNat) (k * 3)) (fun k => M (51 + s.toNat) (k * 3 + 1)) (fun k => M (51 + s.toNat) (k * 3 + 2)) (M 56 s / 3).toNat 0 0 (takeC M 13 1 16) (takeC M 13 1 17) = jdg (M 1 5) (M 1 6) (M 2) (M 3) (fun k => M (51 + s.toNat) (k * 3)) (fun k => M (51 + s.toNat) (k * 3 + 1)) (fun k => M (51 + s.toNat) (k * 3 + 2)) (M 56 s / 3).toNat 0 0 (M 4) (M 5) := jdg_congr (fun i h0 h1 => by have := take_a (M := M) (i := i) (by have := hW.1; omega); exact ⟨this.1, this.2.1⟩) _ _ _ _ _ _ _ (fun i h0 h1 => by have := take_a (M := M) (i := i) (by have := hW.1; omega); exact ⟨this.2.2.1, this.2.2.2.1⟩)
  refine fC.of (L := [_, _, _, _, _]) (by decide +kernel) rfl (Nat.le_of_ble_eq_true rfl) (fun Z hZ hR => ?_)
  have loop : ∀ (m : Nat) (k now : Int) (N : fM), (0 ≤ s ∧ s < 4) → M 55 s ≠ -1 → (0 ≤ M 56 s ∧ M 56 s ≤ 40) → M 56 s % 3 = 0 → 0 ≤ k → k + m = M 56 s / 3 → (0 ≤ now ∧ now ≤ 250) → JK M N → WfC N 13 → (N 13 5 = M 1 5 ∧ N 13 6 = M 1 6 ∧ N 14 = takeC M 13 1 14 ∧ N 15 = takeC M 13 1 15) → (jdg (M 1 5) (M 1 6) (takeC M 13 1 14) (takeC M 13 1 15) (fun k => M (51 + s.toNat) (k * 3)) (fun k => M (51 + s.toNat) (k * 3 + 1)) (fun k => M (51 + s.toNat) (k * 3 + 2)) m k now (N 16) (N 17) = jdg (M 1 5) (M 1 6) (takeC M 13 1 14) (takeC M 13 1 15) (fun k => M (51 + s.toNat) (k * 3)) (fun k => M (51 + s.toNat) (k * 3 + 1)) (fun k => M (51 + s.toNat) (k * 3 + 2)) (M 56 s / 3).toNat 0 0 (takeC M 13 1 16) (takeC M 13 1 17)) → fG X mX6_judge Z 63 [.ref (xa X 0), .int (iv s), .int (iv (M 56 s)), .int (iv now), .int (iv k)] [] N := by
    intro m
    induction m with
    | zero =>
      intro k now N hs4 h55 h56 hmod hk0 hkm hnow hF hCN hkk hJ
      have hJ0 : -1 = jdg (M 1 5) (M 1 6) (takeC M 13 1 14) (takeC M 13 1 15) (fun k => M (51 + s.toNat) (k * 3)) (fun k => M (51 + s.toNat) (k * 3 + 1)) (fun k => M (51 + s.toNat) (k * 3 + 2)) (M 56 s / 3).toNat 0 0 (takeC M 13 1 16) (takeC M 13 1 17) := hJ
      have hNW : WfS N := hS.of (hF 55 (by omega)) (hF 56 (by omega))
      have e55 : N 55 = M 55 := hF 55 (by omega)
      have e56 : N 56 = M 56 := hF 56 (by omega)
      have eR : N (51 + s.toNat) = M (51 + s.toNat) := hF (51 + s.toNat) (by omega)
      have htd : (M 56 s).tdiv 3 = M 56 s / 3 := tdiv3 (by omega)
      obtain ⟨k5, k6, k14, k15⟩ := hkk
      refine f_iload hZ dX6_judge_63 rfl ?_
      refine f_iload_n hZ dX6_judge_65 rfl ?_
      refine f_iconst hZ dX6_judge_66 ?_
      refine f_idiv hZ dX6_judge_67 (by first | omega | (rw [htd]; omega)) (by first | omega | (rw [htd]; omega)) (by first | omega | (rw [htd]; omega)) (by first | omega | (rw [htd]; omega)) ?_
      refine f_ige (tgt := 106) hZ dX6_judge_68 rfl (by first | omega | (rw [htd]; omega)) (by first | omega | (rw [htd]; omega)) (fun h68 => ?_) (fun h68 => ?_)
      · refine f_iconst hZ dX6_judge_106 ?_
        exact f_retI hZ hR dX6_judge_107 rfl (by first | omega | (rw [htd]; omega)) (by exact Or.inr (Or.inr (Or.inr ⟨hs4, h55, hmod, by rw [← hJJ]; omega, hF⟩)))
      · exfalso; omega
    | succ m ih =>
      intro k now N hs4 h55 h56 hmod hk0 hkm hnow hF hCN hkk hJ
      have hNW : WfS N := hS.of (hF 55 (by omega)) (hF 56 (by omega))
      have e55 : N 55 = M 55 := hF 55 (by omega)
      have e56 : N 56 = M 56 := hF 56 (by omega)
      have eR : N (51 + s.toNat) = M (51 + s.toNat) := hF (51 + s.toNat) (by omega)
      have htd : (M 56 s).tdiv 3 = M 56 s / 3 := tdiv3 (by omega)
      obtain ⟨k5, k6, k14, k15⟩ := hkk
      rw [jdg_succ] at hJ
      refine f_iload hZ dX6_judge_63 rfl ?_
      refine f_iload_n hZ dX6_judge_65 rfl ?_
      refine f_iconst hZ dX6_judge_66 ?_
      refine f_idiv hZ dX6_judge_67 (by first | omega | (rw [htd]; omega)) (by first | omega | (rw [htd]; omega)) (by first | omega | (rw [htd]; omega)) (by first | omega | (rw [htd]; omega)) ?_
      refine f_ige (tgt := 106) hZ dX6_judge_68 rfl (by first | omega | (rw [htd]; omega)) (by first | omega | (rw [htd]; omega)) (fun h68 => ?_) (fun h68 => ?_)
      · exfalso; omega
      · refine f_aload_n hZ dX6_judge_71 rfl ?_
        refine f_iload_n hZ dX6_judge_72 rfl ?_
        refine f_iload hZ dX6_judge_73 rfl ?_
        refine f_iconst hZ dX6_judge_75 ?_
        refine f_imul hZ dX6_judge_76 ?_
        refine f_iload_n hZ dX6_judge_77 rfl ?_
        refine vX6_197 hZ dX6_judge_78 (fC.mono (t_X6_follows hs4 (by simp only [reachP, e55, e56]; omega) hnow hNW hCN) (fun x M1 _ h => by rw [eR, foM_P, foM_L, k5, k6, k14, k15] at h; exact h)) (fun a78 M78 r78 h78 => ?_)
        refine f_ne (tgt := 87) hZ dX6_judge_81 rfl (by first | omega | (rw [htd]; omega)) (fun h81 => ?_) (fun h81 => ?_)
        · rcases h78 with ⟨x1, x2, -⟩ | ⟨x1, x2, x3, -⟩ | ⟨x1, x2, x3, rfl⟩
          · exfalso; omega
          · exfalso; omega
          have hFn := (hF.burn (t := M (51 + s.toNat) (k * 3) - now)).lit (w := M (51 + s.toNat) (k * 3 + 1)) (v := bLa (M 1 5) (takeC M 13 1 14) (takeC M 13 1 15) (N 16) (N 17) (M 1 6) (M (51 + s.toNat) (k * 3) - now) (M (51 + s.toNat) (k * 3 + 1)) + M (51 + s.toNat) (k * 3 + 2))
          have hNn := hS.of (hFn 55 (by omega)) (hFn 56 (by omega))
          have hLb := ((hCN.burn (t := M (51 + s.toNat) (k * 3) - now) (by omega)).2.2.2 (M (51 + s.toNat) (k * 3 + 1)) (by omega) (by rw [foM_eq.1]; omega)).2.2.2.1
          replace hLb : 0 ≤ bLa (M 1 5) (takeC M 13 1 14) (takeC M 13 1 15) (N 16) (N 17) (M 1 6) (M (51 + s.toNat) (k * 3) - now) (M (51 + s.toNat) (k * 3 + 1)) := by have h9 := hLb.1; rw [show (13 + 4 : Nat) = 17 from rfl, foM_L, k5, k6, k14, k15] at h9; exact h9
          have hCn := WfC.lit (hCN.burn (t := M (51 + s.toNat) (k * 3) - now) (by omega)) (w := M (51 + s.toNat) (k * 3 + 1)) (v := bLa (M 1 5) (takeC M 13 1 14) (takeC M 13 1 15) (N 16) (N 17) (M 1 6) (M (51 + s.toNat) (k * 3) - now) (M (51 + s.toNat) (k * 3 + 1)) + M (51 + s.toNat) (k * 3 + 2)) (by rw [foM_P, k5, k6, k14, k15]; exact x2.1) (by omega)
          refine f_aload_n hZ dX6_judge_87 rfl ?_
          refine gX6_41 hZ dX6_judge_88 ?_
          refine f_iload_n hZ dX6_judge_91 rfl ?_
          refine f_iload hZ dX6_judge_92 rfl ?_
          refine f_iconst hZ dX6_judge_94 ?_
          refine f_imul hZ dX6_judge_95 ?_
          refine vX6_200 hZ dX6_judge_96 (t_X3_item (by omega) (by omega) hNn) (fun a96 M96 r96 h96 => ?_)
          obtain ⟨e96, h96⟩ := h96
          replace e96 := e96.symm
          subst e96
          refine f_istore_n (L' := [_, _, _, _, _]) hZ dX6_judge_99 rfl rfl ?_
          refine f_iinc (L' := [_, _, _, _, _]) hZ dX6_judge_100 rfl rfl ?_
          refine f_goto (tgt := 63) hZ dX6_judge_103 rfl ?_
          replace h96 : a96 = M (51 + s.toNat) (k * 3) := by
            rcases h96 with ⟨-, y⟩ | ⟨y, -⟩
            · rw [y]; exact congrFun (hFn (51 + s.toNat) (by omega)) _
            · exfalso; apply y; simp only [reachP, hFn 55 (by omega), hFn 56 (by omega)]; omega
          subst h96
          rw [if_neg (by omega), if_pos x2] at hJ
          exact ih (k + 1) _ _ hs4 h55 h56 hmod (by omega) (by omega) (by omega) hFn hCn ⟨by rw [up_ne (by decide), foM_eq.1, k5], by rw [up_ne (by decide), foM_eq.2.1, k6], by rw [up_ne (by decide), foM_eq.2.2.1, k14], by rw [up_ne (by decide), foM_eq.2.2.2, k15]⟩ (by rw [up_upI, up_ne (by decide), foM_P, foM_L, k5, k6, k14, k15]; exact hJ)
        · refine f_iload hZ dX6_judge_84 rfl ?_
          exact f_retI hZ hR dX6_judge_86 rfl (by first | omega | (rw [htd]; omega)) (by refine Or.inr (Or.inr (Or.inr ⟨hs4, h55, hmod, ?_, ?_⟩)) <;> rcases h78 with ⟨x1, x2, rfl⟩ | ⟨x1, x2, x3, rfl⟩ | ⟨x1, x2, x3, rfl⟩; (rw [if_pos (by omega)] at hJ; rw [← hJJ]; exact hJ); (rw [if_neg (by omega), if_neg x2] at hJ; rw [← hJJ]; exact hJ); (exfalso; omega); exact hF; exact hF.burn; (exfalso; omega))
  refine f_aload_n hZ dX6_judge_0 rfl ?_
  refine gX6_41 hZ dX6_judge_1 ?_
  refine f_iload_n hZ dX6_judge_4 rfl ?_
  refine vX6_186 hZ dX6_judge_5 (t_X3_has (by omega)) (fun a5 M5 r5 h5 => ?_)
  obtain ⟨e5, h5⟩ := h5
  replace e5 := e5.symm
  subst e5
  refine f_ne (tgt := 14) hZ dX6_judge_8 rfl (by first | omega | (rw [htm]; omega)) (fun h8 => ?_) (fun h8 => ?_)
  · have hq := hS s (by omega) (by omega)
    have htm : (M 56 s).tmod 3 = M 56 s % 3 := Int.tmod_eq_emod_of_nonneg (by omega)
    refine f_aload_n hZ dX6_judge_14 rfl ?_
    refine gX6_41 hZ dX6_judge_15 ?_
    refine f_iload_n hZ dX6_judge_18 rfl ?_
    refine vX6_187 hZ dX6_judge_19 (t_X3_lacks (by omega)) (fun a19 M19 r19 h19 => ?_)
    obtain ⟨e19, h19⟩ := h19
    replace e19 := e19.symm
    subst e19
    refine f_eq (tgt := 28) hZ dX6_judge_22 rfl (by first | omega | (rw [htm]; omega)) (fun h22 => ?_) (fun h22 => ?_)
    · refine f_aload_n hZ dX6_judge_28 rfl ?_
      refine gX6_41 hZ dX6_judge_29 ?_
      refine gX6_190 hZ dX6_judge_32 ?_
      refine f_iload_n hZ dX6_judge_35 rfl ?_
      refine f_iaload hZ dX6_judge_36 (by first | rfl | exact hC.t1 | exact hC.t2 | exact hC.t3 | exact hC.t4 | exact hC.t5) (by first | rfl | exact hC.l1 | exact hC.l2 | exact hC.l3 | exact hC.l4 | exact hC.l5) (by first | omega | (rw [htm]; omega)) (by first | omega | (rw [htm]; omega)) (fun r36 => ?_)
      refine f_istore_n (L' := [_, _, _, _, _]) hZ dX6_judge_37 rfl rfl ?_
      refine f_iload_n hZ dX6_judge_38 rfl ?_
      refine f_iconst hZ dX6_judge_39 ?_
      refine f_irem hZ dX6_judge_40 (by first | omega | (rw [htm]; omega)) (by first | omega | (rw [htm]; omega)) (by first | omega | (rw [htm]; omega)) (by first | omega | (rw [htm]; omega)) ?_
      refine f_eq (tgt := 47) hZ dX6_judge_41 rfl (by first | omega | (rw [htm]; omega)) (fun h41 => ?_) (fun h41 => ?_)
      · refine f_aload_n hZ dX6_judge_47 rfl ?_
        refine gX6_19 hZ dX6_judge_48 ?_
        refine f_aload_n hZ dX6_judge_51 rfl ?_
        refine gX6_10 hZ dX6_judge_52 ?_
        refine vX6_193 hZ dX6_judge_55 (by first | exact hC | exact isC1 | exact isC7 | exact isC13) (t_X0_take_13_1) (fun M55 h55 => ?_)
        try simp only [Nat.reduceAdd] at h55
        subst h55
        refine f_iconst hZ dX6_judge_58 ?_
        refine f_istore_n (L' := [_, _, _, _, _]) hZ dX6_judge_59 rfl rfl ?_
        refine f_iconst hZ dX6_judge_60 ?_
        refine f_istore (L' := [_, _, _, _, _]) hZ dX6_judge_61 rfl rfl ?_
        exact loop (M 56 s / 3).toNat 0 0 (takeC M 13 1) (by omega) (by omega) (by omega) (by omega) (by omega) (by omega) (by omega) take_JK (take_W hW) ⟨rfl, rfl, rfl, rfl⟩ rfl
      · refine f_bipush hZ dX6_judge_44 ?_
        exact f_retI hZ hR dX6_judge_46 rfl (by first | omega | (rw [htm]; omega)) (by first | exact Or.inl ⟨by omega, rfl, rfl⟩ | exact Or.inr (Or.inl ⟨by omega, by omega, rfl, rfl⟩) | exact Or.inr (Or.inr (Or.inl ⟨by omega, by omega, by omega, rfl, rfl⟩)))
    · refine f_bipush hZ dX6_judge_25 ?_
      exact f_retI hZ hR dX6_judge_27 rfl (by first | omega | (rw [htm]; omega)) (by first | exact Or.inl ⟨by omega, rfl, rfl⟩ | exact Or.inr (Or.inl ⟨by omega, by omega, rfl, rfl⟩) | exact Or.inr (Or.inr (Or.inl ⟨by omega, by omega, by omega, rfl, rfl⟩)))
  · refine f_bipush hZ dX6_judge_11 ?_
    exact f_retI hZ hR dX6_judge_13 rfl (by first | omega | (rw [htm]; omega)) (by first | exact Or.inl ⟨by omega, rfl, rfl⟩ | exact Or.inr (Or.inl ⟨by omega, by omega, rfl, rfl⟩) | exact Or.inr (Or.inr (Or.inl ⟨by omega, by omega, by omega, rfl, rfl⟩)))

