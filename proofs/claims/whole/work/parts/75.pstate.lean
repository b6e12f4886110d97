/-! pairs: feed, force, light, wick, set -/
theorem hi_W {M K : fM} (h : Rel M) (e : ∀ c, 59 ≤ c → K c = M c) : WfM K := h.2.2.1.eq (fun k _ _ => by rw [e 59 (by decide)]) (fun c a _ => e c (by omega))
section St
variable {M : fM}
theorem Rel_feed {b : Int} (h : Rel M) (hb : 0 ≤ b ∧ b ≤ 255) (hlt : M 59 6 < 160) : Rel (up (up (up (up M 20 (M 59 6) b) 19 6 (M 59 6 + 1)) 62 (M 59 6) b) 59 6 (M 59 6 + 1)) := by
  obtain ⟨⟨f1, f2, f3, f4, f5, f6⟩, hA, hW, ⟨t1, t2⟩, hX, hK, hH, hN, h9⟩ := id h
  have e : ∀ c, c ≠ 20 → c ≠ 19 → c ≠ 62 → c ≠ 59 → (up (up (up (up M 20 (M 59 6) b) 19 6 (M 59 6 + 1)) 62 (M 59 6) b) 59 6 (M 59 6 + 1)) c = M c := fun c a b d f => by rw [up_ne f, up_ne d, up_ne b, up_ne a]
  have e59 : ∀ k, k ≠ 6 → (up (up (up (up M 20 (M 59 6) b) 19 6 (M 59 6 + 1)) 62 (M 59 6) b) 59 6 (M 59 6 + 1)) 59 k = M 59 k := fun k hk => by rw [up_app, if_neg (fun z => hk z.2), up_ne (by decide), up_ne (by decide), up_ne (by decide)]
  have e6 : (up (up (up (up M 20 (M 59 6) b) 19 6 (M 59 6 + 1)) 62 (M 59 6) b) 59 6 (M 59 6 + 1)) 59 6 = M 59 6 + 1 := by rw [up_app, if_pos ⟨rfl, rfl⟩]
  have e19 : (up (up (up (up M 20 (M 59 6) b) 19 6 (M 59 6 + 1)) 62 (M 59 6) b) 59 6 (M 59 6 + 1)) 19 6 = M 59 6 + 1 := by rw [up_ne (by decide), up_ne (by decide), up_app, if_pos ⟨rfl, rfl⟩]
  have e197 : (up (up (up (up M 20 (M 59 6) b) 19 6 (M 59 6 + 1)) 62 (M 59 6) b) 59 6 (M 59 6 + 1)) 19 7 = M 19 7 := by rw [up_ne (by decide), up_ne (by decide), up_app, if_neg (fun z => absurd z.2 (by decide)), up_ne (by decide)]
  have e20 : ∀ i, (up (up (up (up M 20 (M 59 6) b) 19 6 (M 59 6 + 1)) 62 (M 59 6) b) 59 6 (M 59 6 + 1)) 20 i = if i = M 59 6 then b else M 20 i := fun i => by
    rw [up_ne (by decide), up_ne (by decide), up_ne (by decide), up_app]
    by_cases hi : i = M 59 6
    · rw [if_pos ⟨rfl, hi⟩, if_pos hi]
    · rw [if_neg (fun z => hi z.2), if_neg hi]
  have e62 : ∀ i, (up (up (up (up M 20 (M 59 6) b) 19 6 (M 59 6 + 1)) 62 (M 59 6) b) 59 6 (M 59 6 + 1)) 62 i = if i = M 59 6 then b else M 62 i := fun i => by
    rw [up_ne (by decide), up_app]
    by_cases hi : i = M 59 6
    · rw [if_pos ⟨rfl, hi⟩, if_pos hi]
    · rw [if_neg (fun z => hi z.2), if_neg hi, up_ne (by decide), up_ne (by decide)]
  generalize (up (up (up (up M 20 (M 59 6) b) 19 6 (M 59 6 + 1)) 62 (M 59 6) b) 59 6 (M 59 6 + 1)) = N at *
  have a1 := e 1 (by decide) (by decide) (by decide) (by decide)
  refine ⟨⟨by rw [a1, e59 12 (by decide)]; exact f1, by rw [a1, e59 13 (by decide)]; exact f2, by rw [a1, e59 14 (by decide)]; exact f3, by rw [a1, e59 4 (by decide)]; exact f4, by rw [e19, e6], by rw [e197, e59 3 (by decide)]; exact f6⟩, ?_, hW.eq (fun k _ _ => e59 k (by omega)) (fun c _ _ => e c (by omega) (by omega) (by omega) (by omega)), ⟨by omega, fun i i0 i1 => ?_⟩, hX.eq (e59 3 (by decide)) (e59 4 (by decide)) (e 60 (by decide) (by decide) (by decide) (by decide)) (e 61 (by decide) (by decide) (by decide) (by decide)) (fun c _ _ => e c (by omega) (by omega) (by omega) (by omega)), hK.eq (by rw [e 0 (by decide) (by decide) (by decide) (by decide)]) (fun k _ _ => e59 k (by omega)) (by rw [e59 12 (by decide)]; exact Int.le_refl _) (by rw [e59 3 (by decide)]; exact Int.le_refl _) (fun c _ _ => e c (by omega) (by omega) (by omega) (by omega)) (fun i _ _ => by rw [e 63 (by decide) (by decide) (by decide) (by decide)]) (e 83 (by decide) (by decide) (by decide) (by decide)), hH.eq (fun c _ => e c (by omega) (by omega) (by omega) (by omega)), RN_same h (fun c _ => e c (by omega) (by omega) (by omega) (by omega)) (e59 4 (by decide)), h9.eq (fun c _ => e c (by omega) (by omega) (by omega) (by omega))⟩
  · unfold RA
    rw [e59 12 (by decide), e 2 (by decide) (by decide) (by decide) (by decide), e 3 (by decide) (by decide) (by decide) (by decide), e 4 (by decide) (by decide) (by decide) (by decide), e 5 (by decide) (by decide) (by decide) (by decide), e 6 (by decide) (by decide) (by decide) (by decide), e 63 (by decide) (by decide) (by decide) (by decide), e 64 (by decide) (by decide) (by decide) (by decide), e 65 (by decide) (by decide) (by decide) (by decide), e 66 (by decide) (by decide) (by decide) (by decide), e 67 (by decide) (by decide) (by decide) (by decide)]
    exact hA
  · rw [e6] at i1
    rw [e62, e20]
    by_cases hi : i = M 59 6
    · rw [if_pos hi, if_pos hi]; exact ⟨rfl, hb⟩
    · rw [if_neg hi, if_neg hi]; exact t2 i i0 (by omega)
/-- a change of the wicks, the damp, the moment, the rule: all else stays, nothing is remembered -/
theorem Rel_chg {N : fM} (h : Rel M) (e : ∀ c, ((7 ≤ c ∧ c ≤ 12) ∨ c = 20 ∨ (22 ≤ c ∧ c ≤ 34) ∨ (51 ≤ c ∧ c ≤ 58) ∨ (60 ≤ c ∧ c ≤ 62) ∨ (78 ≤ c ∧ c ≤ 79) ∨ (83 ≤ c ∧ c ≤ 87)) → N c = M c) (e0 : N 0 8 = M 0 8) (e6 : N 19 6 = M 19 6) (e7 : N 19 7 = M 19 7) (e59 : ∀ k, (k = 3 ∨ k = 6 ∨ 52 < k) → N 59 k = M 59 k) (e4 : 0 ≤ N 59 4 ∧ N 59 4 < M 59 3) (e12 : M 59 12 ≤ N 59 12) (e63 : eqn (M 59 12) (N 63) (M 63)) (hF : N 1 5 = N 59 12 ∧ N 1 6 = N 59 13 ∧ N 1 7 = N 59 14 ∧ N 1 8 = N 59 4) (hA : RA N) (hW : WfM N) (h11 : N 39 11 = -1) (h12 : N 39 12 = M 39 12) : Rel N := by
  obtain ⟨⟨f1, f2, f3, f4, f5, f6⟩, -, -, hT, ⟨x1, x2, x3⟩, hK, hH, hN, h9⟩ := id h
  have g3 := e59 3 (by omega)
  have hX : RX N := ⟨by rw [g3]; exact x1, by rw [g3]; exact e4, fun t a b => by
    rw [g3] at b
    obtain ⟨B, n, p, q⟩ := x3 t a b
    exact ⟨B, n, mTx_eq p (e 60 (by omega)) (e 61 (by omega)), fun k k0 k1 => TXs_congr (by omega) (fun c _ _ => e c (by omega)) (q k k0 k1)⟩⟩
  exact ⟨⟨hF.1, hF.2.1, hF.2.2.1, hF.2.2.2, by rw [e6, e59 6 (by omega)]; exact f5, by rw [e7, g3]; exact f6⟩, hA, hW, hT.eq (e59 6 (by omega)) (e 62 (by omega)) (e 20 (by omega)), hX, hK.eq e0 (fun k _ _ => e59 k (by omega)) e12 (by rw [g3]; exact Int.le_refl _) (fun c _ _ => e c (by omega)) e63 (e 83 (by omega)), hH.eq (fun c _ => e c (by omega)), RN_fgt hX (by rw [h12]; exact KN01 h) h11, h9.eq (fun c _ => e c (by omega))⟩
end St
theorem p_feed {X : fX} {M K : fM} {d : Nat} {r : Int} {b : Int} (h : Rel M) (hb : rg b) (hc : (¬ (0 ≤ b ∧ b ≤ 255) ∧ r = -2 ∧ K = M) ∨ ((0 ≤ b ∧ b ≤ 255) ∧ M 19 6 = 160 ∧ r = -4 ∧ K = M) ∨ ((0 ≤ b ∧ b ≤ 255) ∧ M 19 6 < 160 ∧ r = M 19 6 + 1 ∧ K = up (up M 20 (M 19 6) b) 19 6 (M 19 6 + 1))) : fC X (d + 1) mX7_feed [.ref (xa X 59), .int (iv b)] K (QI fun r1 K1 => r1 = r ∧ Rel K1) := by
  have f5 := h.1.2.2.2.2.1
  rcases hc with ⟨c1, e2, e3⟩ | ⟨c1, c2, e2, e3⟩ | ⟨c1, c2, e2, e3⟩
  · rw [e2, e3]
    refine fC.mono (t_X7_feed hb h.2.2.2.1.1) (fun b2 K1 _ q => ?_)
    rcases q with ⟨_, q2, q3⟩ | ⟨z, _⟩ | ⟨z, _⟩
    · exact ⟨q2, by rw [q3]; exact h⟩
    · exact absurd z c1
    · exact absurd z c1
  · rw [e2, e3]
    refine fC.mono (t_X7_feed hb h.2.2.2.1.1) (fun b2 K1 _ q => ?_)
    rcases q with ⟨z, _⟩ | ⟨_, _, q2, q3⟩ | ⟨_, z, _⟩
    · exact absurd c1 z
    · exact ⟨q2, by rw [q3]; exact h⟩
    · omega
  · have e59 : K 59 = M 59 := by rw [e3, up_ne (by decide), up_ne (by decide)]
    refine fC.mono (t_X7_feed hb (by rw [e59]; exact h.2.2.2.1.1)) (fun b2 K1 _ q => ?_)
    rw [e59] at q
    rcases q with ⟨z, _⟩ | ⟨_, z, _⟩ | ⟨_, q1, q2, q3⟩
    · exact absurd c1 z
    · omega
    · refine ⟨by rw [q2, e2, f5], ?_⟩
      rw [q3, e3, f5]
      exact Rel_feed h c1 q1
theorem p_force {X : fX} {M K : fM} {d : Nat} {r : Int} {t : Int} (h : Rel M) (hb : rg t) (hc : (¬ (0 ≤ t ∧ t < M 19 7) ∧ r = -2 ∧ K = M) ∨ ((0 ≤ t ∧ t < M 19 7) ∧ r = M 1 8 ∧ K = fgt (up M 1 8 t))) : fC X (d + 1) mX7_force [.ref (xa X 59), .int (iv t)] K (QI fun r1 K1 => r1 = r ∧ Rel K1) := by
  have f6 := h.1.2.2.2.2.2
  have hx := h.2.2.2.2.1
  rcases hc with ⟨c1, e2, e3⟩ | ⟨c1, e2, e3⟩
  · rw [e2, e3]
    refine fC.mono (t_X7_force hb hx.1) (fun b2 K1 _ q => ?_)
    rcases q with ⟨_, q2, q3⟩ | ⟨z, _⟩
    · exact ⟨q2, by rw [q3]; exact h⟩
    · exact absurd (by rw [f6]; exact z) c1
  · unfold fgt at e3
    have e59 : K 59 = M 59 := by rw [e3, up_ne (by decide), up_ne (by decide)]
    refine fC.mono (t_X7_force hb (by rw [e59]; exact hx.1)) (fun b2 K1 _ q => ?_)
    rw [e59] at q
    rcases q with ⟨z, _⟩ | ⟨q1, q2, q3⟩
    · exact absurd (by rw [← f6]; exact c1) z
    · refine ⟨by rw [q2, e2]; exact h.1.2.2.2.1.symm, ?_⟩
      rw [q3, e3]
      have e : ∀ c, c ≠ 1 → c ≠ 39 → c ≠ 59 → up (up (up M 1 8 t) 39 11 (-1)) 59 4 t c = M c := fun c a b d => by rw [up_ne d, up_ne b, up_ne a]
      have n59 : ∀ k, k ≠ 4 → up (up (up M 1 8 t) 39 11 (-1)) 59 4 t 59 k = M 59 k := fun k hk => by rw [up_app, if_neg (fun z => hk z.2), up_ne (by decide), up_ne (by decide)]
      have n1 : ∀ k, k ≠ 8 → up (up (up M 1 8 t) 39 11 (-1)) 59 4 t 1 k = M 1 k := fun k hk => by rw [up_ne (by decide), up_ne (by decide), up_app, if_neg (fun z => hk z.2)]
      have n4 : up (up (up M 1 8 t) 39 11 (-1)) 59 4 t 59 4 = t := by rw [up_app, if_pos ⟨rfl, rfl⟩]
      have n18 : up (up (up M 1 8 t) 39 11 (-1)) 59 4 t 1 8 = t := by rw [up_ne (by decide), up_ne (by decide), up_app, if_pos ⟨rfl, rfl⟩]
      refine Rel_chg h (fun c hcc => e c (by omega) (by omega) (by omega)) (by rw [e 0 (by decide) (by decide) (by decide)]) (by rw [e 19 (by decide) (by decide) (by decide)]) (by rw [e 19 (by decide) (by decide) (by decide)]) (fun k hk => n59 k (by omega)) (by rw [n4]; exact q1) (by rw [n59 12 (by decide)]; exact Int.le_refl _) (fun i _ _ => by rw [e 63 (by decide) (by decide) (by decide)]) ⟨by rw [n1 5 (by decide), n59 12 (by decide)]; exact h.1.1, by rw [n1 6 (by decide), n59 13 (by decide)]; exact h.1.2.1, by rw [n1 7 (by decide), n59 14 (by decide)]; exact h.1.2.2.1, by rw [n18, n4]⟩ ?_ (h.2.2.1.eq (fun k _ _ => n59 k (by omega)) (fun c _ _ => e c (by omega) (by omega) (by omega))) (by rw [up_ne (by decide), up_app, if_pos ⟨rfl, rfl⟩]) (by rw [up_ne (by decide), up_app, if_neg (fun z => absurd z.2 (by decide)), up_ne (by decide)])
      unfold RA
      rw [n59 12 (by decide)]
      simp only [e 2 (by decide) (by decide) (by decide), e 3 (by decide) (by decide) (by decide), e 4 (by decide) (by decide) (by decide), e 5 (by decide) (by decide) (by decide), e 6 (by decide) (by decide) (by decide), e 63 (by decide) (by decide) (by decide), e 64 (by decide) (by decide) (by decide), e 65 (by decide) (by decide) (by decide), e 66 (by decide) (by decide) (by decide), e 67 (by decide) (by decide) (by decide)]
      exact h.2.1
