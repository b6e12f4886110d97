/-! the model's burning on, purely -/
theorem itZ_skip {f : Int → Int → Int} {a n : Int} (h0 : 0 ≤ n) : ∀ (m : Nat), (∀ k x, n ≤ k → k < n + m → f k x = x) → itZ f a (n + m) = itZ f a n
  | 0, _ => by rw [show n + ((0 : Nat) : Int) = n by omega]
  | m + 1, h => by
    rw [show n + ((m + 1 : Nat) : Int) = n + m + 1 by omega, itZ_succ _ _ (by omega), itZ_skip h0 m (fun k x a b => h k x a (by omega))]
    exact h _ _ (by omega) (by omega)
section Bu
variable {lv i T e : Int} {M N K K2 : fM} {W : Int → pV}
abbrev bs (M : fM) (lv : Int) : sS := lvS M lv (M 59 12)
theorem bu_at (h : 0 ≤ i ∧ i < M 59 12) : sp (bs M lv) i = M 68 (4 * lv + i) ∧ sl (bs M lv) i = M 69 (4 * lv + i) := ⟨if_pos h, if_pos h⟩
theorem bu_out (h : ¬ (0 ≤ i ∧ i < M 59 12)) : sp (bs M lv) i = 0 ∧ sl (bs M lv) i = 0 := ⟨if_neg h, if_neg h⟩
theorem bu_spd (h : 0 ≤ i ∧ i < M 59 12) : spd (mvZ M) (bs M lv) i = fastZ (M 63 i) (M 64 i) (M 69 (4 * lv + i)) (M 59 36) := by
  unfold spd
  rw [(bu_at h).2]
  by_cases hl : M 69 (4 * lv + i) = 0
  · rw [if_pos hl, hl]; rfl
  · rw [if_neg hl]; rfl
theorem bu_sout (h : ¬ (0 ≤ i ∧ i < M 59 12)) : spd (mvZ M) (bs M lv) i = 0 := if_pos (bu_out h).2
theorem bu_srg (hk : lvOk M W lv (M 59 12)) (h : 0 ≤ i ∧ i < M 59 12) : 0 ≤ spd (mvZ M) (bs M lv) i ∧ spd (mvZ M) (bs M lv) i ≤ 6 ∧ (1 ≤ M 69 (4 * lv + i) → 1 ≤ spd (mvZ M) (bs M lv) i) := by
  rw [bu_spd h]
  exact fastZ_rg (hk.2.2.1 i h.1 h.2).2.1 (hk.1.1.2.2.2 i h.1 h.2).2.1 hk.1.2.2.1
def tmI (M : fM) (lv i T : Int) : Prop := (T = -1 ∧ itZ (tmF (mvZ M) (bs M lv)) 0 i = 0) ∨ (T = itZ (tmF (mvZ M) (bs M lv)) 0 i ∧ 0 < T ∧ T ≤ 99)
theorem tmI.skip (h0 : 0 ≤ i) (hi : i < M 59 12) (h : tmI M lv i T) (hl : M 69 (4 * lv + i) = 0) : tmI M lv (i + 1) T := by
  have hs : tmF (mvZ M) (bs M lv) i (itZ (tmF (mvZ M) (bs M lv)) 0 i) = itZ (tmF (mvZ M) (bs M lv)) 0 i := by
    unfold tmF
    exact if_neg (by rw [show spd (mvZ M) (bs M lv) i = 0 from if_pos ((bu_at ⟨h0, hi⟩).2.trans hl)]; omega)
  unfold tmI
  rw [itZ_succ _ _ h0, hs]
  exact h
theorem tmI.go (hk : lvOk M W lv (M 59 12)) (h0 : 0 ≤ i) (hi : i < M 59 12) (h : tmI M lv i T) (hl : 0 < M 69 (4 * lv + i)) {t T' : Int} (ht : t = lastZ (M 68 (4 * lv + i)) (fastZ (M 63 i) (M 64 i) (M 69 (4 * lv + i)) (M 59 36))) (hT : ((T = -1 ∨ t < T) ∧ T' = t) ∨ (T ≠ -1 ∧ ¬ t < T ∧ T' = T)) : tmI M lv (i + 1) T' := by
  have hr := hk.2.2.1 i h0 hi
  have hs := bu_srg hk ⟨h0, hi⟩
  have hp := hk.1.1.2.2.2 i h0 hi
  have hp2 := hp.2.2.1
  have hpl : 0 < M 68 (4 * lv + i) := by
    have := hr.2.2
    have := hr.1.1
    by_cases z : M 68 (4 * lv + i) = 0
    · have := hr.2.2 z; omega
    · omega
  rw [← bu_spd ⟨h0, hi⟩] at ht
  have hF := hs.2.2 (by omega)
  have hlr := lastZ_rg (P := M 68 (4 * lv + i)) (F := spd (mvZ M) (bs M lv) i) hr.1.1 hF
  have hlp : 0 < lastZ (M 68 (4 * lv + i)) (spd (mvZ M) (bs M lv) i) := by
    unfold lastZ
    rw [Int.tdiv_eq_ediv_of_nonneg (by omega)]
    exact Int.lt_of_lt_of_le (by omega) ((Int.le_ediv_iff_mul_le (a := 1) (by omega)).mpr (by omega))
  rw [← ht] at hlr hlp
  have hst : itZ (tmF (mvZ M) (bs M lv)) 0 (i + 1) = if itZ (tmF (mvZ M) (bs M lv)) 0 i = 0 ∨ t < itZ (tmF (mvZ M) (bs M lv)) 0 i then t else itZ (tmF (mvZ M) (bs M lv)) 0 i := by
    rw [itZ_succ _ _ h0]
    unfold tmF
    rw [if_pos (by omega), (bu_at ⟨h0, hi⟩).1, ← ht]
  unfold tmI at h ⊢
  rw [hst]
  have hr1 := hr.1
  clear hst hs hF ht hr hp
  generalize itZ (tmF (mvZ M) (bs M lv)) 0 i = acc at *
  refine Or.inr ?_
  rcases h with ⟨a, b⟩ | ⟨a, b, c⟩
  · rcases hT with ⟨q, rfl⟩ | ⟨q, _⟩
    · rw [if_pos (Or.inl b)]; omega
    · exact absurd a q
  · rcases hT with ⟨q, rfl⟩ | ⟨q, q2, rfl⟩
    · rw [if_pos (Or.inr (by omega))]; omega
    · rw [if_neg (by omega)]; omega
theorem bu_tm (hk : lvOk M W lv (M 59 12)) : tmZ (mvZ M) (bs M lv) = itZ (tmF (mvZ M) (bs M lv)) 0 (M 59 12) := by
  have h4 := hk.1.1.1
  have := itZ_skip (f := tmF (mvZ M) (bs M lv)) (a := 0) h4.1 (4 - M 59 12).toNat (fun k x a b => by
    unfold tmF
    rw [if_neg (by rw [bu_sout (by omega)]; omega)])
  rw [show M 59 12 + (((4 - M 59 12).toNat : Nat) : Int) = 4 by omega] at this
  exact this
theorem bu_none (hk : lvOk M W lv (M 59 12)) (h : tmI M lv (M 59 12) (-1)) : buP M W lv M := by
  have h0 : tmZ (mvZ M) (bs M lv) = 0 := by
    rw [bu_tm hk]
    rcases h with h | h
    · exact h.2
    · omega
  exact ⟨UpdM.id (fun n hn => by have h1 : 0 < tmZ (mvZ M) (bs M lv) := hn.1; omega) (fun _ _ _ => rfl) rfl, FL.refl, hk.1⟩
theorem bu_T (hk : lvOk M W lv (M 59 12)) (h : tmI M lv (M 59 12) T) (hT : T ≠ -1) : T = tmZ (mvZ M) (bs M lv) ∧ (1 ≤ T ∧ T ≤ 99) ∧ lv ≤ 3 := by
  rcases h with ⟨h, _⟩ | ⟨h1, h2, h3⟩
  · exact absurd h hT
  · have e : T = tmZ (mvZ M) (bs M lv) := by rw [bu_tm hk]; exact h1
    refine ⟨e, by omega, ?_⟩
    obtain ⟨w, a, b, f1, f2⟩ := tm_arg (show 0 < tmZ (mvZ M) (bs M lv) by omega)
    have hw : 0 ≤ w ∧ w < M 59 12 := Classical.byContradiction fun q => by rw [bu_sout q] at f1; omega
    have hr := hk.2.2.1 w hw.1 hw.2
    have hp := (lastZ_out (P := sp (bs M lv) w) (by rw [(bu_at hw).1]; exact hr.1.1) f1 (by omega)).1
    have h0 := hk.2.1.1
    by_cases hd : lv ≤ 3
    · exact hd
    · exact absurd hp (cnS_zero (P := roP M lv) (by have := hk.2.2.2.1; omega) a b)
/-- the next row, laid up to wick i -/
def rwM (M : fM) (lv T i : Int) : fM := fun c j => if c = 68 ∧ 4 * lv + 4 ≤ j ∧ j < 4 * lv + 4 + i then sp (sB (mvZ M) T (bs M lv)) (j - (4 * lv + 4)) else if c = 69 ∧ 4 * lv + 4 ≤ j ∧ j < 4 * lv + 4 + i then sl (sB (mvZ M) T (bs M lv)) (j - (4 * lv + 4)) else M c j
theorem rwM_0 : rwM M lv T 0 = M := by funext c j; unfold rwM; rw [if_neg (by omega), if_neg (by omega)]
theorem rwM_c {c : Nat} (h : c ≠ 68) (h2 : c ≠ 69) : rwM M lv T i c = M c := by funext j; unfold rwM; rw [if_neg (fun z => h z.1), if_neg (fun z => h2 z.1)]
theorem rwM_lo {c : Nat} {j : Int} (h : j < 4 * lv + 4) : rwM M lv T i c j = M c j := by unfold rwM; rw [if_neg (by omega), if_neg (by omega)]
theorem rwM_st {a b : Int} (h0 : 0 ≤ i) (ha : a = sp (sB (mvZ M) T (bs M lv)) i) (hb : b = sl (sB (mvZ M) T (bs M lv)) i) : up (up (rwM M lv T i) 68 (4 * lv + i + 4) a) 69 (4 * lv + i + 4) b = rwM M lv T (i + 1) := by
  funext c j
  rw [up_app, up_app]
  unfold rwM
  by_cases h9 : c = 69 ∧ j = 4 * lv + i + 4
  · rw [if_pos h9, if_neg (by omega), if_pos (by omega), hb, show j - (4 * lv + 4) = i by omega]
  · rw [if_neg h9]
    by_cases h8 : c = 68 ∧ j = 4 * lv + i + 4
    · rw [if_pos h8, if_pos (by omega), ha, show j - (4 * lv + 4) = i by omega]
    · rw [if_neg h8]
      have hj : (c = 68 ∨ c = 69) → j ≠ 4 * lv + i + 4 := fun z y => by
        rcases z with z | z
        · exact h8 ⟨z, y⟩
        · exact h9 ⟨z, y⟩
      by_cases g : c = 68 ∧ 4 * lv + 4 ≤ j ∧ j < 4 * lv + 4 + i
      · rw [if_pos g, if_pos ⟨g.1, g.2.1, by omega⟩]
      · rw [if_neg g, if_neg (show ¬ (c = 68 ∧ 4 * lv + 4 ≤ j ∧ j < 4 * lv + 4 + (i + 1)) from fun z => by have := hj (Or.inl z.1); exact g ⟨z.1, z.2.1, by omega⟩)]
        by_cases g2 : c = 69 ∧ 4 * lv + 4 ≤ j ∧ j < 4 * lv + 4 + i
        · rw [if_pos g2, if_pos ⟨g2.1, g2.2.1, by omega⟩]
        · rw [if_neg g2, if_neg (show ¬ (c = 69 ∧ 4 * lv + 4 ≤ j ∧ j < 4 * lv + 4 + (i + 1)) from fun z => by have := hj (Or.inr z.1); exact g2 ⟨z.1, z.2.1, by omega⟩)]
/-- behind the event -/
def nxM (M : fM) (lv T : Int) : fM := up (up (up (rwM M lv T (M 59 12)) 70 (lv + 1) (M 70 lv + T)) 71 (lv + 1) (M 71 lv)) 72 (lv + 1) (M 72 lv)
theorem nxM_c {c : Nat} (h : c < 68 ∨ 72 < c) : nxM M lv T c = M c := by
  unfold nxM
  rw [up_ne (by omega), up_ne (by omega), up_ne (by omega), rwM_c (by omega) (by omega)]
theorem nxM_70 {j : Int} : nxM M lv T 70 j = if j = lv + 1 then M 70 lv + T else M 70 j := by
  unfold nxM
  rw [up_ne (by decide), up_ne (by decide), up_app, rwM_c (by decide) (by decide)]
  by_cases h : j = lv + 1
  · rw [if_pos ⟨rfl, h⟩, if_pos h]
  · rw [if_neg (fun z => h z.2), if_neg h]
theorem nxM_71 {j : Int} : nxM M lv T 71 j = if j = lv + 1 then M 71 lv else M 71 j := by
  unfold nxM
  rw [up_ne (by decide), up_app, up_ne (by decide), rwM_c (by decide) (by decide)]
  by_cases h : j = lv + 1
  · rw [if_pos ⟨rfl, h⟩, if_pos h]
  · rw [if_neg (fun z => h z.2), if_neg h]
theorem nxM_72 {j : Int} : nxM M lv T 72 j = if j = lv + 1 then M 72 lv else M 72 j := by
  unfold nxM
  rw [up_app, up_ne (by decide), up_ne (by decide), rwM_c (by decide) (by decide)]
  by_cases h : j = lv + 1
  · rw [if_pos ⟨rfl, h⟩, if_pos h]
  · rw [if_neg (fun z => h z.2), if_neg h]
theorem nxM_row {c : Nat} (hc : c = 68 ∨ c = 69) : nxM M lv T c = rwM M lv T (M 59 12) c := by
  unfold nxM
  rw [up_ne (by omega), up_ne (by omega), up_ne (by omega)]
theorem nxM_FL : FL lv M (nxM M lv T) := ⟨fun c a b => nxM_c (by omega), fun k _ _ => by rw [nxM_c (by decide)], fun j hj => ⟨by rw [nxM_row (Or.inl rfl), rwM_lo hj], by rw [nxM_row (Or.inr rfl), rwM_lo hj]⟩, fun j hj => ⟨by rw [nxM_70, if_neg (by omega)], by rw [nxM_71, if_neg (by omega)], by rw [nxM_72, if_neg (by omega)]⟩⟩
theorem noP_FL {l : Int} (h : noP (nxM M lv T) l K) : FL lv M K := nxM_FL.trans ⟨fun c a b => h.2.1 c a (by omega), fun k _ b => h.2.2.1 k b, fun j _ => ⟨by rw [h.2.1 68 (by decide) (by decide)], by rw [h.2.1 69 (by decide) (by decide)]⟩, fun j _ => ⟨by rw [h.2.1 70 (by decide) (by decide)], by rw [h.2.1 71 (by decide) (by decide)], by rw [h.2.1 72 (by decide) (by decide)]⟩⟩
theorem bu_sup (h4 : M 59 12 ≤ 4) : ∀ w, ¬ (0 ≤ w ∧ w < M 59 12) → sp (sB (mvZ M) T (bs M lv)) w = 0 ∧ sl (sB (mvZ M) T (bs M lv)) w = 0 := fun w hw => by
  have e : leftZ (mvZ M) (bs M lv) T w = 0 := by
    unfold leftZ
    rw [(bu_out hw).1, bu_sout hw]; omega
  refine ⟨?_, ?_⟩
  · show (if 0 < leftZ (mvZ M) (bs M lv) T w then _ else (0 : Int)) = 0
    rw [e]; rfl
  · show (if 0 < leftZ (mvZ M) (bs M lv) T w then _ else (0 : Int)) = 0
    rw [e]; rfl
theorem bu_rows (h4 : M 59 12 ≤ 4) (h : noP (nxM M lv T) lv K) : roP K (lv + 1) = sp (sB (mvZ M) T (bs M lv)) ∧ roL K (lv + 1) = sl (sB (mvZ M) T (bs M lv)) := by
  have e12 : K 59 12 = M 59 12 := by rw [h.2.2.1 12 (by decide), nxM_c (by decide)]
  refine ⟨funext fun w => ?_, funext fun w => ?_⟩
  · unfold roP
    rw [e12, h.2.1 68 (by decide) (by decide), nxM_row (Or.inl rfl)]
    by_cases hw : 0 ≤ w ∧ w < M 59 12
    · rw [if_pos hw]
      unfold rwM
      rw [if_pos (by omega), show 4 * (lv + 1) + w - (4 * lv + 4) = w by omega]
    · rw [if_neg hw, (bu_sup h4 w hw).1]
  · unfold roL
    rw [e12, h.2.1 69 (by decide) (by decide), nxM_row (Or.inr rfl)]
    by_cases hw : 0 ≤ w ∧ w < M 59 12
    · rw [if_pos hw]
      unfold rwM
      rw [if_neg (by omega), if_pos (by omega), show 4 * (lv + 1) + w - (4 * lv + 4) = w by omega]
    · rw [if_neg hw, (bu_sup h4 w hw).2]
theorem bu_st (hk : lvOk M W lv (M 59 12)) (h : noP (nxM M lv T) lv K) : lvS K (lv + 1) 0 = sB (mvZ M) T (bs M lv) := by
  have h4 := hk.1.1.1
  have hl0 := hk.2.1.1.1
  have hr := bu_rows h4.2 h
  have e70 : K 70 = nxM M lv T 70 := h.2.1 70 (by decide) (by decide)
  refine Prod.ext hr.1 (Prod.ext hr.2 (Prod.ext ?_ (Prod.ext ?_ (Prod.ext ?_ (Prod.ext ?_ ?_)))))
  · show K 70 (lv + 1) = M 70 lv + T
    rw [e70, nxM_70, if_pos rfl]
  · show K 71 (lv + 1) = M 71 lv
    rw [h.2.1 71 (by decide) (by decide), nxM_71, if_pos rfl]
  · show K 72 (lv + 1) = M 72 lv
    rw [h.2.1 72 (by decide) (by decide), nxM_72, if_pos rfl]
  · show K 59 37 * dgU K (lv + 1) 0 = M 59 37 * dgU M lv (M 59 12)
    unfold dgU
    rw [if_neg (by omega), h.2.2.1 37 (by decide), nxM_c (by decide), unW_top h4.1 h4.2]
    split <;> rfl
  · show evM K (lv + 1).toNat = evM M lv.toNat ++ [M 70 lv + T]
    rw [show (lv + 1).toNat = lv.toNat + 1 by omega]
    show evM K lv.toNat ++ [K 70 ((lv.toNat : Nat) + 1)] = _
    rw [show ((lv.toNat : Nat) : Int) + 1 = lv + 1 by omega, e70, nxM_70, if_pos rfl, evM_eq (M := M) _ (fun j hj => by rw [e70, nxM_70, if_neg (by omega)])]
theorem bu_ok (hk : lvOk M W lv (M 59 12)) (hT : T = tmZ (mvZ M) (bs M lv)) (hTr : 1 ≤ T ∧ T ≤ 99) (h3 : lv ≤ 3) (h : noP (nxM M lv T) lv K) : lvOk K W (lv + 1) 0 ∧ K 59 12 = M 59 12 := by
  have h4 := hk.1.1.1
  have hFL := noP_FL h
  have e12 : K 59 12 = M 59 12 := hFL.f 12 (by omega) (by decide)
  have hst := bu_st hk h
  have hr := bu_rows h4.2 h
  have hl0 := hk.2.1.1
  have htm := hk.2.2.2.2.1
  have hnu := hk.2.2.2.2.2.1
  have e65 : K 65 = M 65 := hFL.1 65 (by decide) (by decide)
  have e77 : K 77 = M 77 := by rw [h.2.1 77 (by decide) (by decide), nxM_c (by decide)]
  have e70 : K 70 = nxM M lv T 70 := h.2.1 70 (by decide) (by decide)
  refine ⟨⟨hFL.stat hk.1 h.2.2.2.1 h.2.2.2.2 (hk.1.2.2.2.2.2.eq e77 (hFL.f 42 (by omega) (by decide)) (hFL.f 13 (by omega) (by decide)) e65 (hFL.1 67 (by decide) (by decide))), ?_, fun x a b => ?_, ?_, ?_, ?_, fun z => by omega⟩, e12⟩
  · rw [e12]; omega
  · rw [e12] at b
    have q1 : K 68 (4 * (lv + 1) + x) = sp (sB (mvZ M) T (bs M lv)) x := by rw [← hr.1]; exact (if_pos (by rw [e12]; exact ⟨a, b⟩)).symm
    have q2 : K 69 (4 * (lv + 1) + x) = sl (sB (mvZ M) T (bs M lv)) x := by rw [← hr.2]; exact (if_pos (by rw [e12]; exact ⟨a, b⟩)).symm
    have hs := bu_srg hk ⟨a, b⟩
    have hx := hk.2.2.1 x a b
    have hm := Int.mul_nonneg hs.1 (show 0 ≤ T by omega)
    have hle : leftZ (mvZ M) (bs M lv) T x ≤ M 68 (4 * lv + x) := by
      unfold leftZ
      rw [(bu_at ⟨a, b⟩).1]; omega
    rw [q1, q2, e65]
    have p1 : sp (sB (mvZ M) T (bs M lv)) x = if 0 < leftZ (mvZ M) (bs M lv) T x then leftZ (mvZ M) (bs M lv) T x else 0 := rfl
    have p2 : sl (sB (mvZ M) T (bs M lv)) x = if 0 < leftZ (mvZ M) (bs M lv) T x then M 69 (4 * lv + x) else 0 := by
      rw [← (bu_at (lv := lv) ⟨a, b⟩).2]; rfl
    rw [p1, p2]
    by_cases hq : 0 < leftZ (mvZ M) (bs M lv) T x
    · rw [if_pos hq, if_pos hq]
      exact ⟨by omega, hx.2.1, fun z => by omega⟩
    · rw [if_neg hq, if_neg hq]
      exact ⟨by omega, by omega, fun _ => rfl⟩
  · rw [hr.1]
    obtain ⟨w, a, b, f1, f2⟩ := tm_arg (show 0 < tmZ (mvZ M) (bs M lv) by omega)
    have hw : 0 ≤ w ∧ w < M 59 12 := Classical.byContradiction fun q => by rw [bu_sout q] at f1; omega
    have hrw := hk.2.2.1 w hw.1 hw.2
    have hp := lastZ_out (P := sp (bs M lv) w) (by rw [(bu_at hw).1]; exact hrw.1.1) f1 (by omega)
    have hd := cnS_drop (P := sp (sB (mvZ M) T (bs M lv))) (Q := roP M lv) (fun x x0 x1 hx => by
      have hx : 0 < (if 0 < leftZ (mvZ M) (bs M lv) T x then leftZ (mvZ M) (bs M lv) T x else 0) := hx
      by_cases hq : 0 < leftZ (mvZ M) (bs M lv) T x
      · by_cases hxn : 0 ≤ x ∧ x < M 59 12
        · have hs := bu_srg hk hxn
          have hm := Int.mul_nonneg hs.1 (show 0 ≤ T by omega)
          unfold leftZ at hq
          have : 0 < sp (bs M lv) x := by omega
          exact this
        · unfold leftZ at hq
          rw [(bu_out hxn).1, bu_sout hxn] at hq; omega
      · rw [if_neg hq] at hx; omega) a b hp.1 (by
      show ¬ 0 < (if 0 < leftZ (mvZ M) (bs M lv) T w then leftZ (mvZ M) (bs M lv) T w else 0)
      rw [if_neg (by unfold leftZ; rw [hT, f2]; have := hp.2; omega)]; omega)
    have := hk.2.2.2.1
    omega
  · refine ⟨by rw [e70, nxM_70, if_pos rfl]; have := htm.1; omega, fun j a b => ?_⟩
    rw [e70, nxM_70, nxM_70, if_pos rfl]
    have t1 := htm.1
    by_cases hj : j = lv + 1
    · rw [if_pos hj]; omega
    · rw [if_neg hj]
      have := htm.2 j a (by omega)
      omega
  · unfold lvNum
    rw [h.2.1 71 (by decide) (by decide), h.2.1 72 (by decide) (by decide), nxM_71, nxM_72, if_pos rfl, if_pos rfl, hFL.f 37 (by omega) (by decide)]
    have n1 := hnu.1
    have n2 := hnu.2.1
    exact ⟨by omega, by omega, hnu.2.2.1, fun z => by omega⟩
theorem bu_fin (hk : lvOk M W lv (M 59 12)) (hT : T = tmZ (mvZ M) (bs M lv)) (hTr : 1 ≤ T ∧ T ≤ 99) (h3 : lv ≤ 3) (h : noP (nxM M lv T) lv K) (hL : liP K W (lv + 1) 0 K2) : buP M W lv K2 := by
  have h4 := hk.1.1.1
  have hl0 := hk.2.1.1
  have hFL := noP_FL h
  have hf := hFL.fns (v := W 0)
  obtain ⟨p1, p2, p3⟩ := hL
  refine ⟨?_, hFL.trans (p2.down (by omega)), p3⟩
  have u1 : UpdM M (fun m => m = (M 70 lv + T, M 71 lv, M 72 lv, M 59 37, evM M lv.toNat)) K := by
    have h1 := h.1
    rw [nxM_70, if_pos rfl, nxM_71, if_neg (by omega), nxM_72, if_neg (by omega), nxM_c (show (59 : Nat) < 68 ∨ 72 < 59 by decide), evM_eq (M := M) lv.toNat (fun j hj => by rw [nxM_70, if_neg (by omega)])] at h1
    exact h1.eq (fun c a b => (nxM_c (by omega)).symm) (fun _ _ _ => rfl) (by rw [nxM_c (by decide)]) (by rw [nxM_c (by decide)]) rfl
  refine UpdM.comp (fun m => ?_) u1 p1 (hFL.f 43 (by omega) (by decide))
  have hdg : M 59 37 * dgU M lv (M 59 12) = M 59 37 := by
    unfold dgU
    rw [unW_top h4.1 h4.2]
    split <;> simp
  have hset : liS K (W 0) (lv + 1) 0 m ↔ emD two (mprX M (W 0)) (mvZ M) (4 - lv).toNat (sB (mvZ M) T (bs M lv)) m := by
    unfold liS lvB
    rw [bu_st hk h, hf.1, hf.2.1, show unL K (lv + 1) = fun _ => 0 from if_neg (by omega), show (4 - lv).toNat = (4 - (lv + 1)).toNat + 1 by omega]
    exact Iff.rfl
  rw [hset]
  show emB (mvZ M) (emD two (mprX M (W 0)) (mvZ M) (4 - lv).toNat) (bs M lv) m ↔ _
  unfold emB
  rw [← hT]
  have e1 : (st (bs M lv) + T, se (bs M lv), sc (bs M lv), sf (bs M lv), sx (bs M lv)) = ((M 70 lv + T, M 71 lv, M 72 lv, M 59 37, evM M lv.toNat) : sN) := by
    show (M 70 lv + T, M 71 lv, M 72 lv, M 59 37 * dgU M lv (M 59 12), evM M lv.toNat) = _
    rw [hdg]
  rw [e1]
  exact ⟨fun z => z.2, fun z => ⟨by omega, z⟩⟩
end Bu
