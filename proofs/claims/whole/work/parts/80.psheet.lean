/-! pairs: sheet, cell, copy -/
section Sh
variable {M N : fM}
theorem Rel_sh (h : Rel M) (e : ∀ c, ¬ (51 ≤ c ∧ c ≤ 56) → ¬ (84 ≤ c ∧ c ≤ 87) → N c = M c) (hH : RH N) : Rel N := by
  obtain ⟨hF, hA, hW, hT, hX, hK, -, hN, h9⟩ := id h
  have e59 := e 59 (by decide) (by decide)
  refine ⟨?_, ?_, hW.eq (fun k _ _ => by rw [e59]) (fun c _ _ => e c (by omega) (by omega)), hT.eq (by rw [e59]) (e 62 (by decide) (by decide)) (e 20 (by decide) (by decide)), hX.eq (by rw [e59]) (by rw [e59]) (e 60 (by decide) (by decide)) (e 61 (by decide) (by decide)) (fun c _ _ => e c (by omega) (by omega)), hK.eq (by rw [e 0 (by decide) (by decide)]) (fun k _ _ => by rw [e59]) (by rw [e59]; exact Int.le_refl _) (by rw [e59]; exact Int.le_refl _) (fun c _ _ => e c (by omega) (by omega)) (fun i _ _ => by rw [e 63 (by decide) (by decide)]) (e 83 (by decide) (by decide)), hH, RN_same h (fun c _ => e c (by omega) (by omega)) (by rw [e59]), h9.eq (fun c _ => e c (by omega) (by omega))⟩
  · unfold RF
    rw [e 1 (by decide) (by decide), e 19 (by decide) (by decide), e59]; exact hF
  · unfold RA
    rw [e59, e 2 (by decide) (by decide), e 3 (by decide) (by decide), e 4 (by decide) (by decide), e 5 (by decide) (by decide), e 6 (by decide) (by decide), e 63 (by decide) (by decide), e 64 (by decide) (by decide), e 65 (by decide) (by decide), e 66 (by decide) (by decide), e 67 (by decide) (by decide)]
    exact hA
theorem Rel_cell {s i v : Int} (h : Rel M) (hs : 0 ≤ s ∧ s < 4) (hi : 0 ≤ i ∧ i < M 56 s) : Rel (up (up M (51 + s.toNat) i v) 87 (40 * s + i) v) := by
  have hH := h.2.2.2.2.2.2.1
  refine Rel_sh h (fun c a b => by rw [up_ne (by omega), up_ne (by omega)]) (fun s' a b => ?_)
  obtain ⟨g1, g2⟩ := hH s' a b
  have gs := (hH s hs.1 hs.2).1
  unfold RS1
  rw [up_ne (show (56 : Nat) ≠ 87 by decide), up_ne (show (56 : Nat) ≠ 51 + s.toNat by omega), up_ne (show (55 : Nat) ≠ 87 by decide), up_ne (show (55 : Nat) ≠ 51 + s.toNat by omega), up_ne (show (84 : Nat) ≠ 87 by decide), up_ne (show (84 : Nat) ≠ 51 + s.toNat by omega), up_ne (show (85 : Nat) ≠ 87 by decide), up_ne (show (85 : Nat) ≠ 51 + s.toNat by omega), up_ne (show (86 : Nat) ≠ 87 by decide), up_ne (show (86 : Nat) ≠ 51 + s.toNat by omega)]
  refine ⟨g1, g2.imp (fun z => z) (fun ⟨z1, z2, z3, z4, z5⟩ => ⟨z1, z2, z3, z4, fun j j0 j1 => ?_⟩)⟩
  show up (up M (51 + s.toNat) i v) 87 (40 * s + i) v (51 + s'.toNat) j = up (up M (51 + s.toNat) i v) 87 (40 * s + i) v 87 (40 * s' + j)
  rw [up_ne (show 51 + s'.toNat ≠ 87 by omega), up_app, up_app, up_ne (show (87 : Nat) ≠ 51 + s.toNat by omega)]
  by_cases hq : s' = s ∧ j = i
  · rw [if_pos ⟨by omega, hq.2⟩, if_pos ⟨rfl, by omega⟩]
  · rw [if_neg (fun z => hq ⟨by omega, z.2⟩), if_neg (fun z => hq (by have := z.2; omega))]
    exact z5 j j0 j1
theorem Rel_copy {s t i j n : Int} (h : Rel M) (hs : 0 ≤ s ∧ s < 4) (ht : 0 ≤ t ∧ t < 4) (os : M 55 s ≠ -1) (ot : M 55 t ≠ -1) (hi : 0 ≤ i ∧ 0 ≤ n ∧ i + n ≤ M 56 s) (hj : 0 ≤ j ∧ j + n ≤ M 56 t) : Rel (cpM (cpM M (51 + s.toNat) (51 + t.toNat) i j n) 87 87 (40 * s + i) (40 * t + j) n) := by
  have hH := h.2.2.2.2.2.2.1
  have oe : ∀ c, c ≠ 87 → c ≠ 51 + t.toNat → cpM (cpM M (51 + s.toNat) (51 + t.toNat) i j n) 87 87 (40 * s + i) (40 * t + j) n c = M c := fun c a b => by rw [cp_ne a, cp_ne b]
  obtain ⟨gs1, gs2⟩ := hH s hs.1 hs.2
  obtain ⟨gt1, gt2⟩ := hH t ht.1 ht.2
  have gs3 := (gs2.resolve_left (fun z => os z.1)).2.2.2.2
  refine Rel_sh h (fun c a b => oe c (by omega) (by omega)) (fun s' a b => ?_)
  obtain ⟨g1, g2⟩ := hH s' a b
  unfold RS1
  rw [oe 56 (by decide) (by omega), oe 55 (by decide) (by omega), oe 84 (by decide) (by omega), oe 85 (by decide) (by omega), oe 86 (by decide) (by omega)]
  refine ⟨g1, g2.imp (fun z => z) (fun ⟨z1, z2, z3, z4, z5⟩ => ⟨z1, z2, z3, z4, fun k k0 k1 => ?_⟩)⟩
  show cpM (cpM M (51 + s.toNat) (51 + t.toNat) i j n) 87 87 (40 * s + i) (40 * t + j) n (51 + s'.toNat) k = cpM (cpM M (51 + s.toNat) (51 + t.toNat) i j n) 87 87 (40 * s + i) (40 * t + j) n 87 (40 * s' + k)
  rw [cp_ne (show 51 + s'.toNat ≠ 87 by omega)]
  have q87 : cpM M (51 + s.toNat) (51 + t.toNat) i j n 87 = M 87 := cp_ne (by omega)
  have hL : cpM M (51 + s.toNat) (51 + t.toNat) i j n (51 + s'.toNat) k = if 51 + s'.toNat = 51 + t.toNat ∧ j ≤ k ∧ k < j + n then M (51 + s.toNat) (i + (k - j)) else M (51 + s'.toNat) k := rfl
  have hR : cpM (cpM M (51 + s.toNat) (51 + t.toNat) i j n) 87 87 (40 * s + i) (40 * t + j) n 87 (40 * s' + k) = if (87 : Nat) = 87 ∧ 40 * t + j ≤ 40 * s' + k ∧ 40 * s' + k < 40 * t + j + n then cpM M (51 + s.toNat) (51 + t.toNat) i j n 87 (40 * s + i + (40 * s' + k - (40 * t + j))) else cpM M (51 + s.toNat) (51 + t.toNat) i j n 87 (40 * s' + k) := rfl
  rw [hL, hR, q87]
  by_cases hq : s' = t ∧ j ≤ k ∧ k < j + n
  · rw [if_pos ⟨by omega, hq.2⟩, if_pos ⟨rfl, by omega, by omega⟩, gs3 (i + (k - j)) (by omega) (by omega)]
    show M 87 (40 * s + (i + (k - j))) = M 87 (40 * s + i + (40 * s' + k - (40 * t + j)))
    rw [hq.1]
    congr 1
    omega
  · rw [if_neg (fun z => hq ⟨by omega, z.2⟩), if_neg (fun z => hq (by have := z.2; omega))]
    exact z5 k k0 k1
theorem Rel_sheet {s t n : Int} (h : Rel M) (hb : ¬ sheetBad s t n) (hn : ¬ (t ≠ -1 ∧ n < 0)) : Rel (shtM (layM M s t n) s t n) := by
  have hH := h.2.2.2.2.2.2.1
  have hs : 0 ≤ s ∧ s < 4 := Classical.byContradiction fun z => hb (Or.inl z)
  have ht : -1 ≤ t ∧ t ≤ 2 := Classical.byContradiction fun z => hb (Or.inr (Or.inl z))
  have hn40 : ¬ (t ≠ -1 ∧ 40 < n) := fun z => hb (Or.inr (Or.inr z))
  have lo : ∀ c, c < 84 → shtM (layM M s t n) s t n c = layM M s t n c := fun c hc => by
    funext i
    unfold shtM zeroI
    rw [if_neg (by omega), up_ne (by omega), up_ne (by omega), up_ne (by omega)]
  have la : ∀ c, c ≠ 55 → c ≠ 56 → c ≠ 51 + s.toNat → layM M s t n c = M c := fun c a b d => by
    funext i
    unfold layM fillM
    rw [if_neg (fun z => d z.1), up_ne b, up_ne a]
  have l55 : ∀ j, layM M s t n 55 j = if j = s then t else M 55 j := fun j => by
    unfold layM fillM
    rw [if_neg (by omega), up_ne (by decide), up_app]
    by_cases hj : j = s
    · rw [if_pos ⟨rfl, hj⟩, if_pos hj]
    · rw [if_neg (fun z => hj z.2), if_neg hj]
  have l56 : ∀ j, layM M s t n 56 j = if j = s then (if t = -1 then 0 else max 0 (min 40 n)) else M 56 j := fun j => by
    unfold layM fillM
    rw [if_neg (by omega), up_app, up_ne (by decide)]
    by_cases hj : j = s
    · rw [if_pos ⟨rfl, hj⟩, if_pos hj]
    · rw [if_neg (fun z => hj z.2), if_neg hj]
  have lz : ∀ i, 0 ≤ i → i < 40 → layM M s t n (51 + s.toNat) i = 0 := fun i a b => by
    unfold layM fillM
    rw [if_pos ⟨rfl, a, b⟩]
  have s84 : ∀ j, shtM (layM M s t n) s t n 84 j = if j = s then (if 0 ≤ t then 1 else 0) else M 84 j := fun j => by
    unfold shtM zeroI
    rw [if_neg (by omega), up_ne (by decide), up_ne (by decide), up_app, la 84 (by decide) (by decide) (by omega)]
    by_cases hj : j = s
    · rw [if_pos ⟨rfl, hj⟩, if_pos hj]
    · rw [if_neg (fun z => hj z.2), if_neg hj]
  have s85 : ∀ j, shtM (layM M s t n) s t n 85 j = if j = s then t else M 85 j := fun j => by
    unfold shtM zeroI
    rw [if_neg (by omega), up_ne (by decide), up_app, up_ne (by decide), la 85 (by decide) (by decide) (by omega)]
    by_cases hj : j = s
    · rw [if_pos ⟨rfl, hj⟩, if_pos hj]
    · rw [if_neg (fun z => hj z.2), if_neg hj]
  have s86 : ∀ j, shtM (layM M s t n) s t n 86 j = if j = s then n else M 86 j := fun j => by
    unfold shtM zeroI
    rw [if_neg (by omega), up_app, up_ne (by decide), up_ne (by decide), la 86 (by decide) (by decide) (by omega)]
    by_cases hj : j = s
    · rw [if_pos ⟨rfl, hj⟩, if_pos hj]
    · rw [if_neg (fun z => hj z.2), if_neg hj]
  have s87 : ∀ j, shtM (layM M s t n) s t n 87 j = if 40 * s ≤ j ∧ j < 40 * s + (if 0 ≤ t then n else 0) then 0 else M 87 j := fun j => by
    unfold shtM zeroI
    by_cases hj : 40 * s ≤ j ∧ j < 40 * s + (if 0 ≤ t then n else 0)
    · rw [if_pos ⟨rfl, hj⟩, if_pos hj]
    · rw [if_neg (fun z => hj z.2), if_neg hj, up_ne (by decide), up_ne (by decide), up_ne (by decide), la 87 (by decide) (by decide) (by omega)]
  refine Rel_sh h (fun c a b => ?_) (fun s' a b => ?_)
  · by_cases hc : c < 84
    · rw [lo c hc, la c (by omega) (by omega) (by omega)]
    · funext i
      unfold shtM zeroI
      rw [if_neg (by omega), up_ne (by omega), up_ne (by omega), up_ne (by omega), la c (by omega) (by omega) (by omega)]
  · obtain ⟨g1, g2⟩ := hH s' a b
    unfold RS1
    rw [lo 56 (by decide), lo 55 (by decide), l56, l55, s84, s85, s86, lo (51 + s'.toNat) (by omega)]
    by_cases hq : s' = s
    · subst hq
      rw [if_pos rfl, if_pos rfl, if_pos rfl, if_pos rfl, if_pos rfl]
      by_cases h1 : t = -1
      · rw [if_pos h1, if_neg (by omega)]
        exact ⟨by omega, Or.inl ⟨h1, rfl⟩⟩
      · rw [if_neg h1, if_pos (by omega)]
        refine ⟨by omega, Or.inr ⟨by omega, rfl, rfl, by omega, fun i i0 i1 => ?_⟩⟩
        rw [lz i i0 (by omega)]
        show (0 : Int) = shtM (layM M s' t n) s' t n 87 (40 * s' + i)
        rw [s87, if_pos ⟨by omega, by rw [if_pos (by omega)]; omega⟩]
    · rw [if_neg hq, if_neg hq, if_neg hq, if_neg hq, if_neg hq, la (51 + s'.toNat) (by omega) (by omega) (by omega)]
      refine ⟨g1, g2.imp (fun z => z) (fun ⟨z1, z2, z3, z4, z5⟩ => ⟨z1, z2, z3, z4, fun i i0 i1 => ?_⟩)⟩
      show M (51 + s'.toNat) i = shtM (layM M s t n) s t n 87 (40 * s' + i)
      rw [s87, if_neg (by split <;> omega)]
      exact z5 i i0 i1
end Sh
theorem p_sheet {X : fX} {M K : fM} {d : Nat} {r : Int} {s t n : Int} (h : Rel M) (hs : rg s) (ht : rg t) (hn : rg n) (hc : (sheetBad s t n ∧ r = -2 ∧ K = M) ∨ (¬ sheetBad s t n ∧ (t ≠ -1 ∧ n < 0) ∧ r = -14 ∧ K = M) ∨ (¬ sheetBad s t n ∧ ¬ (t ≠ -1 ∧ n < 0) ∧ r = 1 ∧ K = layM M s t n)) : fC X (d + 2) mX7_sheet [.ref (xa X 59), .int (iv s), .int (iv t), .int (iv n)] K (QI fun r1 K1 => r1 = r ∧ Rel K1) := by
  rcases hc with ⟨c1, e2, e3⟩ | ⟨c1, c2, e2, e3⟩ | ⟨c1, c2, e2, e3⟩
  · rw [e2, e3]
    refine fC.mono (t_X7_sheet hs ht hn) (fun b2 K1 _ q => ?_)
    rcases q with ⟨_, q2, q3⟩ | ⟨z, _⟩ | ⟨z, _⟩
    · exact ⟨q2, by rw [q3]; exact h⟩
    · exact absurd c1 z
    · exact absurd c1 z
  · rw [e2, e3]
    refine fC.mono (t_X7_sheet hs ht hn) (fun b2 K1 _ q => ?_)
    rcases q with ⟨z, _⟩ | ⟨_, _, q2, q3⟩ | ⟨_, z, _⟩
    · exact absurd z c1
    · exact ⟨q2, by rw [q3]; exact h⟩
    · exact absurd c2 z
  · refine fC.mono (t_X7_sheet hs ht hn) (fun b2 K1 _ q => ?_)
    rcases q with ⟨z, _⟩ | ⟨_, z, _⟩ | ⟨_, _, q2, q3⟩
    · exact absurd z c1
    · exact absurd z c2
    · exact ⟨by rw [q2, e2], by rw [q3, e3]; exact Rel_sheet h c1 c2⟩
