/-! pairs: copies, best, judge, feed, force, light -/
section Eq
variable {M K : fM} {W : Int → pV}
theorem RT.eq (h : RT M) (e6 : K 59 6 = M 59 6) (e62 : K 62 = M 62) (e20 : K 20 = M 20) : RT K := by
  unfold RT
  rw [e6, e62, e20]; exact h
theorem RX.eq (h : RX M) (e3 : K 59 3 = M 59 3) (e4 : K 59 4 = M 59 4) (e60 : K 60 = M 60) (e61 : K 61 = M 61) (e : ∀ c, 22 ≤ c → c ≤ 34 → K c = M c) : RX K := by
  obtain ⟨x1, x2, x3⟩ := h
  refine ⟨by rw [e3]; exact x1, by rw [e4, e3]; exact x2, fun t a b => ?_⟩
  rw [e3] at b
  obtain ⟨B, n, p, q⟩ := x3 t a b
  exact ⟨B, n, mTx_eq p e60 e61, fun k k0 k1 => TXs_congr (by omega) e (q k k0 k1)⟩
theorem RK.eq (h : RK M) (e0 : K 0 8 = M 0 8) (ek : ∀ k, 53 ≤ k → k ≤ 56 → K 59 k = M 59 k) (e12 : M 59 12 ≤ K 59 12) (e3 : M 59 3 ≤ K 59 3) (e : ∀ c, 7 ≤ c → c ≤ 12 → K c = M c) (e63 : eqn (M 59 12) (K 63) (M 63)) (e83 : K 83 = M 83) : RK K := by
  unfold RK
  rw [e0, ek 53 (by omega) (by omega), ek 54 (by omega) (by omega), ek 55 (by omega) (by omega), ek 56 (by omega) (by omega), e 7 (by omega) (by omega), e 8 (by omega) (by omega), e 9 (by omega) (by omega), e 10 (by omega) (by omega), e 11 (by omega) (by omega), e 12 (by omega) (by omega), e83]
  rcases h with h | ⟨h1, h2, h3, h4, h5, h6, h7, h8⟩
  · exact Or.inl h
  · exact Or.inr ⟨h1, ⟨h2.1, by omega⟩, h3, h4, ⟨h5.1, by omega⟩, h6, fun i a b => by rw [h7 i a b, e63 i a (by omega)], h8⟩
theorem RH.eq (h : RH M) (e : ∀ c, (51 ≤ c ∧ c ≤ 56) ∨ (84 ≤ c ∧ c ≤ 87) → K c = M c) : RH K := fun s a b => by
  unfold RS1
  rw [e 55 (by omega), e 56 (by omega), e 84 (by omega), e 85 (by omega), e 86 (by omega), e 87 (by omega), e (51 + s.toNat) (by omega)]
  exact h s a b
theorem KN.same (h : KN M W) (e : ∀ c, (1 ≤ c ∧ c ≤ 6) ∨ (39 ≤ c ∧ c ≤ 42) → K c = M c) : KN K W := by
  unfold KN at *
  have q : prW K (W 0) (K 39 12) = prW M (W 0) (M 39 12) := by rw [e 39 (by omega)]; exact prW_eq (e 1 (by omega)) (e 4 (by omega)) (e 6 (by omega))
  rw [q, e 39 (by omega), e 1 (by omega), e 2 (by omega), e 3 (by omega), e 4 (by omega), e 5 (by omega), e 40 (by omega), e 41 (by omega), e 42 (by omega)]
  exact h
theorem R9.eq (h : R9 M) (e : ∀ c, c = 57 ∨ c = 58 ∨ c = 78 ∨ c = 79 → K c = M c) : R9 K := by
  unfold R9 at *
  rw [e 57 (by omega), e 58 (by omega), e 78 (by omega), e 79 (by omega)]; exact h
theorem RN_same (h : Rel M) (e : ∀ c, (1 ≤ c ∧ c ≤ 6) ∨ (39 ≤ c ∧ c ≤ 42) ∨ (22 ≤ c ∧ c ≤ 34) ∨ c = 60 ∨ c = 61 → K c = M c) (e4 : K 59 4 = M 59 4) : RN K := by
  obtain ⟨W, h1, h2⟩ := h.2.2.2.2.2.2.2.1
  exact ⟨W, RW_eq h h1 (fun c hc => e c (by omega)) e4, h2.same (fun c hc => e c (by omega))⟩
theorem KN01 (h : Rel M) : M 39 12 = 0 ∨ M 39 12 = 1 := by
  obtain ⟨W, h1, h2⟩ := h.2.2.2.2.2.2.2.1
  exact h2.1
end Eq
/-! copies, best -/
section Cp
variable {M K K1 : fM} {W : Int → pV} {w : Int}
theorem df_eq (h : Rel M) (hF : drF M K) (h0 : 0 ≤ w) (h1 : w < M 59 12) : dfM K W w = dfZ M W w := by
  funext k x
  unfold dfM dfZ
  rw [hF.1 65 (by decide) (by decide) (by decide) (by decide), hF.1 59 (by decide) (by decide) (by decide) (by decide), h.1.2.1, h.2.1.2.2.1 w h0 h1]
theorem df_id (h : Rel M) (h0 : 0 ≤ w) (h1 : w < M 59 12) : dfM M W w = dfZ M W w := by
  funext k x
  unfold dfM dfZ
  rw [h.1.2.1, h.2.1.2.2.1 w h0 h1]
theorem Rel_dr (h : Rel M) (hF : drF M K) (hG : drG K K1) : Rel K1 := by
  have e : ∀ c, c ≠ 35 → c ≠ 36 → c ≠ 57 → c ≠ 58 → c ≠ 59 → c ≠ 78 → c ≠ 79 → K1 c = M c := fun c h1 h2 h3 h4 h5 h6 h7 => by rw [hG.1.1 c h5 h6 h7, hF.1 c h1 h2 h3 h4]
  have e59 : ∀ k, (k < 15 ∨ 29 < k) → K1 59 k = M 59 k := fun k hk => by rw [hG.1.2 k hk, hF.1 59 (by decide) (by decide) (by decide) (by decide)]
  refine h.same (fun c hc => e c (by omega) (by omega) (by omega) (by omega) (by omega) (by omega) (by omega)) (by rw [e 0 (by decide) (by decide) (by decide) (by decide) (by decide) (by decide) (by decide)]) (by rw [e 19 (by decide) (by decide) (by decide) (by decide) (by decide) (by decide) (by decide)]) (by rw [e 19 (by decide) (by decide) (by decide) (by decide) (by decide) (by decide) (by decide)]) (fun k hk => e59 k (by omega)) ⟨by rw [hG.1.1 57 (by decide) (by decide) (by decide)]; exact hF.2.1, by rw [hG.1.1 58 (by decide) (by decide) (by decide)]; exact hF.2.2, hG.2.1, hG.2.2⟩ (RN_same h (fun c hc => e c (by omega) (by omega) (by omega) (by omega) (by omega) (by omega) (by omega)) (e59 4 (by omega)))
theorem hiF_ok (h : Rel M) (hW : RWt M W) (hF : drF M K) : WfM K ∧ gokM K W ∧ K 78 0 = 0 ∧ K 79 0 = 0 ∧ K 59 = M 59 := by
  have e : ∀ c, c ≠ 35 → c ≠ 36 → c ≠ 57 → c ≠ 58 → K c = M c := hF.1
  obtain ⟨r1, r2, r3, r4⟩ := h.2.2.2.2.2.2.2.2
  have e59 := e 59 (by decide) (by decide) (by decide) (by decide)
  refine ⟨h.2.2.1.eq (fun k _ _ => by rw [e59]) (fun c a _ => e c (by omega) (by omega) (by omega) (by omega)), hW.1.eq (by rw [e59]) (e 60 (by decide) (by decide) (by decide) (by decide)) (e 61 (by decide) (by decide) (by decide) (by decide)), ?_, ?_, e59⟩
  · rw [e 78 (by decide) (by decide) (by decide) (by decide)]; exact r3
  · rw [e 79 (by decide) (by decide) (by decide) (by decide)]; exact r4
end Cp
theorem p_copies {X : fX} {M K : fM} {d : Nat} {W : Int → pV} {r : Int} {w n b : Int} (h : Rel M) (hW : RWt M W) (hw0 : rg w) (hn0 : rg n) (hb : rg b) (hc : (¬ ((0 ≤ w ∧ w < M 1 5) ∧ (1 ≤ n ∧ n ≤ 12) ∧ (1 ≤ b ∧ b ≤ 4)) ∧ r = -2 ∧ K = M) ∨ (((0 ≤ w ∧ w < M 1 5) ∧ (1 ≤ n ∧ n ≤ 12) ∧ (1 ≤ b ∧ b ≤ 4)) ∧ drF M K ∧ r = drZ (dfZ M W w) n b)) : fC X (d + 50) mX7_copies [.ref (xa X 59), .int (iv w), .int (iv n), .int (iv b)] K (QI fun r1 K1 => r1 = r ∧ Rel K1) := by
  rcases hc with ⟨c1, e2, e3⟩ | ⟨c1, c2, e2⟩
  · rw [e2, e3]
    refine fC.mono (t_X7_copies hw0 hn0 hb h.2.2.2.2.2.2.2.2.2.2.1 h.2.2.2.2.2.2.2.2.2.2.2 h.2.2.1 hW.1) (fun b2 K1 _ z => ?_)
    rcases z with ⟨q1, q2, q3⟩ | ⟨q1, _⟩
    · exact ⟨q2, by rw [q3]; exact h⟩
    · exact absurd (by rw [h.1.1]; exact q1) c1
  · obtain ⟨wk, gk, z78, z79, e59⟩ := hiF_ok h hW c2
    refine fC.mono (t_X7_copies hw0 hn0 hb z78 z79 wk gk) (fun b2 K1 _ z => ?_)
    rw [e59] at z
    rcases z with ⟨q1, _⟩ | ⟨q1, q2, q3⟩
    · exact absurd (by rw [← h.1.1]; exact c1) q1
    · exact ⟨by rw [q3, e2, df_eq h c2 c1.1.1 (by rw [← h.1.1]; exact c1.1.2)], Rel_dr h c2 q2⟩
theorem p_best {X : fX} {M K : fM} {d : Nat} {W : Int → pV} {r : Int} {w n q : Int} (h : Rel M) (hW : RWt M W) (hw0 : rg w) (hn0 : rg n) (hb : rg q) (hc : (¬ ((0 ≤ w ∧ w < M 1 5) ∧ (1 ≤ n ∧ n ≤ 12) ∧ (0 ≤ q ∧ q ≤ 1)) ∧ r = -2 ∧ K = M) ∨ (((0 ≤ w ∧ w < M 1 5) ∧ (1 ≤ n ∧ n ≤ 12) ∧ (0 ≤ q ∧ q ≤ 1)) ∧ drF M K ∧ r = if q = 0 then (bsN (drZ (dfZ M W w) n) 3).1 else (bsN (drZ (dfZ M W w) n) 3).2)) : fC X (d + 50) mX7_best [.ref (xa X 59), .int (iv w), .int (iv n), .int (iv q)] K (QI fun r1 K1 => r1 = r ∧ Rel K1) := by
  rcases hc with ⟨c1, e2, e3⟩ | ⟨c1, c2, e2⟩
  · rw [e2, e3]
    refine fC.mono (t_X7_best hw0 hn0 hb h.2.2.2.2.2.2.2.2.2.2.1 h.2.2.2.2.2.2.2.2.2.2.2 h.2.2.1 hW.1) (fun b2 K1 _ z => ?_)
    rcases z with ⟨q1, q2, q3⟩ | ⟨q1, _⟩
    · exact ⟨q2, by rw [q3]; exact h⟩
    · exact absurd (by rw [h.1.1]; exact q1) c1
  · obtain ⟨wk, gk, z78, z79, e59⟩ := hiF_ok h hW c2
    refine fC.mono (t_X7_best hw0 hn0 hb z78 z79 wk gk) (fun b2 K1 _ z => ?_)
    rw [e59] at z
    rcases z with ⟨q1, _⟩ | ⟨q1, q2, q3⟩
    · exact absurd (by rw [← h.1.1]; exact c1) q1
    · exact ⟨by rw [q3, e2, df_eq h c2 c1.1.1 (by rw [← h.1.1]; exact c1.1.2)], Rel_dr h c2 q2⟩
/-! judge -/
theorem jdg_cg {n dm : Int} {K N K' N' T W E T' W' E' : Int → Int} (hK : eqn n K' K) (hN : eqn n N' N) : ∀ (m : Nat) (row now : Int) (P L P' L' : Int → Int), eqn n P' P → eqn n L' L → (∀ k, row ≤ k → k < row + m → T' k = T k ∧ W' k = W k ∧ E' k = E k) → jdg n dm K' N' T' W' E' m row now P' L' = jdg n dm K N T W E m row now P L
  | 0, _, _, _, _, _, _, _, _, _ => rfl
  | m + 1, row, now, P, L, P', L', hP, hL, hT => by
    obtain ⟨t1, t2, t3⟩ := hT row (Int.le_refl row) (by omega)
    have hb : ∀ t, eqn n (bPa n K' N' P' L' dm t) (bPa n K N P L dm t) ∧ eqn n (bLa n K' N' P' L' dm t) (bLa n K N P L dm t) := fun t => ⟨fun i a b => by
      unfold bPa
      rw [if_pos ⟨a, b⟩, if_pos ⟨a, b⟩]
      unfold burnP burnE
      rw [hK i a b, hN i a b, hP i a b, hL i a b], fun i a b => by
      unfold bLa
      rw [if_pos ⟨a, b⟩, if_pos ⟨a, b⟩]
      unfold burnL burnE
      rw [hK i a b, hN i a b, hP i a b, hL i a b]⟩
    rw [jdg_succ, jdg_succ, t1, t2, t3]
    by_cases hj : jok n now (T row) (W row) (E row)
    · have hw := hj.2.1
      have hnn : ¬ ¬ jok n now (T row) (W row) (E row) := fun z => z hj
      rw [if_neg hnn, if_neg hnn, (hb _).1 (W row) hw.1 hw.2, (hb _).2 (W row) hw.1 hw.2]
      by_cases hc : 0 < bPa n K N P L dm (T row - now) (W row) ∧ bLa n K N P L dm (T row - now) (W row) + E row ≤ 2
      · rw [if_pos hc, if_pos hc]
        refine jdg_cg hK hN m (row + 1) (T row) _ _ _ _ (hb _).1 (fun i a b => ?_) (fun k a b => hT k (by omega) (by omega))
        unfold updI
        by_cases hi : i = W row
        · rw [if_pos hi, if_pos hi]
        · rw [if_neg hi, if_neg hi]; exact (hb _).2 i a b
      · rw [if_neg hc, if_neg hc]
    · rw [if_pos hj, if_pos hj]
theorem asideM_ne {M : fM} {c : Nat} (h : c ≠ 59 ∧ c ≠ 80 ∧ c ≠ 81 ∧ c ≠ 82) : asideM M c = M c := by
  unfold asideM
  simp only [up_ne h.1, up_ne h.2.1, up_ne h.2.2.1, up_ne h.2.2.2]
theorem asideM_59 {M : fM} {k : Int} (h : k ≠ 51) : asideM M 59 k = M 59 k := by
  unfold asideM
  rw [up_app, if_neg (fun z => h z.2)]
  simp only [up_ne (show (59 : Nat) ≠ 80 by decide), up_ne (show (59 : Nat) ≠ 81 by decide), up_ne (show (59 : Nat) ≠ 82 by decide)]
theorem Rel_jd {M K K1 : fM} (h : Rel M) (hF : JK M K) (hG : K1 = asideM K ∨ K1 = K) : Rel K1 := by
  have e : ∀ c, c ≠ 59 → ¬ (13 ≤ c ∧ c ≤ 18) → ¬ (80 ≤ c ∧ c ≤ 82) → K1 c = M c := fun c h1 h2 h3 => by
    rcases hG with z | z
    · rw [z, asideM_ne (by omega), hF c h2]
    · rw [z, hF c h2]
  have e59 : ∀ k, k ≠ 51 → K1 59 k = M 59 k := fun k hk => by
    rcases hG with z | z
    · rw [z, asideM_59 hk, hF 59 (by omega)]
    · rw [z, hF 59 (by omega)]
  exact h.same (fun c hc => e c (by omega) (by omega) (by omega)) (by rw [e 0 (by decide) (by decide) (by decide)]) (by rw [e 19 (by decide) (by decide) (by decide)]) (by rw [e 19 (by decide) (by decide) (by decide)]) (fun k hk => e59 k (by omega)) (h.2.2.2.2.2.2.2.2.eq (fun c hc => e c (by omega) (by omega) (by omega))) (RN_same h (fun c hc => e c (by omega) (by omega) (by omega)) (e59 4 (by decide)))
theorem p_judge {X : fX} {M K : fM} {d : Nat} {r : Int} {s : Int} (h : Rel M) (hs : rg s) (hc : (¬ (0 ≤ s ∧ s < 4) ∧ r = -2 ∧ K = M) ∨ ((0 ≤ s ∧ s < 4) ∧ M 55 s = -1 ∧ r = -11 ∧ K = M) ∨ ((0 ≤ s ∧ s < 4) ∧ M 55 s ≠ -1 ∧ M 56 s % 3 ≠ 0 ∧ r = -2 ∧ K = M) ∨ ((0 ≤ s ∧ s < 4) ∧ M 55 s ≠ -1 ∧ M 56 s % 3 = 0 ∧ r = jdg (M 1 5) (M 1 6) (M 2) (M 3) (fun k => M (51 + s.toNat) (k * 3)) (fun k => M (51 + s.toNat) (k * 3 + 1)) (fun k => M (51 + s.toNat) (k * 3 + 2)) (M 56 s / 3).toNat 0 0 (M 4) (M 5) ∧ JK M K)) : fC X (d + 3) mX7_judge [.ref (xa X 59), .int (iv s)] K (QI fun r1 K1 => r1 = r ∧ Rel K1) := by
  have hhi : ∀ c, 19 ≤ c → K c = M c := fun c hcc => by
    rcases hc with ⟨_, _, z⟩ | ⟨_, _, _, z⟩ | ⟨_, _, _, _, z⟩ | ⟨_, _, _, _, z⟩
    · rw [z]
    · rw [z]
    · rw [z]
    · exact z c (by omega)
  have wk : WfM K := h.2.2.1.eq (fun k _ _ => by rw [hhi 59 (by decide)]) (fun c a _ => hhi c (by omega))
  have wt : WfT K := by
    have := h.WT
    unfold WfT at *
    rw [hhi 84 (by decide), hhi 85 (by decide), hhi 86 (by decide)]
    exact this
  refine fC.mono (t_X7_judge hs wt wk) (fun b2 K1 _ q => ?_)
  rw [hhi 59 (by decide), hhi 63 (by decide), hhi 64 (by decide), hhi 65 (by decide), hhi 66 (by decide), hhi 84 (by decide), hhi 86 (by decide), hhi 87 (by decide)] at q
  by_cases hs4 : 0 ≤ s ∧ s < 4
  · obtain ⟨g1, g2⟩ := h.2.2.2.2.2.2.1 s hs4.1 hs4.2
    rcases g2 with ⟨g2, g3⟩ | ⟨g2, g3, g4, g5, g6⟩
    · have hr : r = -11 ∧ K = M := by
        rcases hc with ⟨z, _⟩ | ⟨_, _, z1, z2⟩ | ⟨_, z, _⟩ | ⟨_, z, _⟩
        · exact absurd hs4 z
        · exact ⟨z1, z2⟩
        · exact absurd g2 z
        · exact absurd g2 z
      rcases q with ⟨z, _⟩ | ⟨_, _, z1, z2⟩ | ⟨_, z, _⟩ | ⟨_, z, _⟩
      · exact absurd hs4 z
      · exact ⟨by rw [z1, hr.1], by rw [z2, hr.2]; exact h⟩
      · omega
      · omega
    · rw [g5] at q
      by_cases h3 : M 56 s % 3 = 0
      · rcases q with ⟨z, _⟩ | ⟨_, z, _⟩ | ⟨_, _, z, _⟩ | ⟨_, _, _, q1, q2⟩
        · exact absurd hs4 z
        · omega
        · exact absurd h3 z
        · rcases hc with ⟨z, _⟩ | ⟨_, z, _⟩ | ⟨_, _, z, _⟩ | ⟨_, _, _, c1, c2⟩
          · exact absurd hs4 z
          · omega
          · exact absurd h3 z
          · refine ⟨?_, Rel_jd h c2 (Or.inl q2)⟩
            rw [q1, c1, h.1.1, h.1.2.1]
            refine (jdg_cg h.2.1.1 h.2.1.2.1 _ 0 0 _ _ _ _ h.2.1.2.2.1 h.2.1.2.2.2.1 (fun k a b => ?_)).symm
            have hk : 3 * k + 3 ≤ M 56 s := by omega
            exact ⟨by show M (51 + s.toNat) (k * 3) = M 87 (40 * s + 3 * k); rw [g6 (k * 3) (by omega) (by omega)]; show M 87 (40 * s + k * 3) = _; rw [Int.mul_comm k 3], by show M (51 + s.toNat) (k * 3 + 1) = M 87 (40 * s + 3 * k + 1); rw [g6 (k * 3 + 1) (by omega) (by omega)]; show M 87 (40 * s + (k * 3 + 1)) = _; rw [show 40 * s + (k * 3 + 1) = 40 * s + 3 * k + 1 by omega], by show M (51 + s.toNat) (k * 3 + 2) = M 87 (40 * s + 3 * k + 2); rw [g6 (k * 3 + 2) (by omega) (by omega)]; show M 87 (40 * s + (k * 3 + 2)) = _; rw [show 40 * s + (k * 3 + 2) = 40 * s + 3 * k + 2 by omega]⟩
      · rcases q with ⟨z, _⟩ | ⟨_, z, _⟩ | ⟨_, _, _, q1, q2⟩ | ⟨_, _, z, _⟩
        · exact absurd hs4 z
        · omega
        · rcases hc with ⟨z, _⟩ | ⟨_, z, _⟩ | ⟨_, _, _, c1, c2⟩ | ⟨_, _, z, _⟩
          · exact absurd hs4 z
          · omega
          · exact ⟨by rw [q1, c1], by rw [q2, c2]; exact h⟩
          · exact absurd z h3
        · exact absurd z h3
  · rcases hc with ⟨_, c1, c2⟩ | ⟨z, _⟩ | ⟨z, _⟩ | ⟨z, _⟩
    · rcases q with ⟨_, q1, q2⟩ | ⟨z, _⟩ | ⟨z, _⟩ | ⟨z, _⟩
      · exact ⟨by rw [q1, c1], by rw [q2, c2]; exact h⟩
      · exact absurd z hs4
      · exact absurd z hs4
      · exact absurd z hs4
    · exact absurd z hs4
    · exact absurd z hs4
    · exact absurd z hs4
