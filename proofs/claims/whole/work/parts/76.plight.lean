/-! pairs: light, wick -/
theorem eqn_updI {n w v : Int} {f g : Int → Int} (h : eqn n f g) : eqn n (updI f w v) (updI g w v) := fun i a b => by
  unfold updI
  by_cases hi : i = w
  · rw [if_pos hi, if_pos hi]
  · rw [if_neg hi, if_neg hi]; exact h i a b
theorem eqn_ext {n v : Int} {f g : Int → Int} (h : eqn n f g) : eqn (n + 1) (updI f n v) (updI g n v) := fun i a b => by
  unfold updI
  by_cases hi : i = n
  · rw [if_pos hi, if_pos hi]
  · rw [if_neg hi, if_neg hi]; exact h i a (by omega)
section Lw
variable {M : fM}
theorem Rel_light {w v : Int} (h : Rel M) (hp : 0 < M 65 w) (hv : 0 ≤ v ∧ v ≤ 2) : Rel (up (up (up M 5 w v) 39 11 (-1)) 66 w v) := by
  have e : ∀ c, c ≠ 5 → c ≠ 39 → c ≠ 66 → up (up (up M 5 w v) 39 11 (-1)) 66 w v c = M c := fun c a b d => by rw [up_ne d, up_ne b, up_ne a]
  have n5 : up (up (up M 5 w v) 39 11 (-1)) 66 w v 5 = updI (M 5) w v := by rw [up_ne (by decide), up_ne (by decide), up_upI]
  have n66 : up (up (up M 5 w v) 39 11 (-1)) 66 w v 66 = updI (M 66) w v := by rw [up_upI, up_ne (by decide), up_ne (by decide)]
  have e1 := e 1 (by decide) (by decide) (by decide)
  have e59 := e 59 (by decide) (by decide) (by decide)
  obtain ⟨a1, a2, a3, a4, a5⟩ := h.2.1
  have hx := h.2.2.2.2.1.2.1
  refine Rel_chg h (fun c hc => e c (by omega) (by omega) (by omega)) (by rw [e 0 (by decide) (by decide) (by decide)]) (by rw [e 19 (by decide) (by decide) (by decide)]) (by rw [e 19 (by decide) (by decide) (by decide)]) (fun k _ => by rw [e59]) (by rw [e59]; exact hx) (by rw [e59]; exact Int.le_refl _) (fun i _ _ => by rw [e 63 (by decide) (by decide) (by decide)]) (by rw [e1, e59]; exact ⟨h.1.1, h.1.2.1, h.1.2.2.1, h.1.2.2.2.1⟩) ?_ ?_ (by rw [up_ne (by decide), up_app, if_pos ⟨rfl, rfl⟩]) (by rw [up_ne (by decide), up_app, if_neg (fun z => absurd z.2 (by decide)), up_ne (by decide)])
  · unfold RA
    rw [e59, n5, n66, e 2 (by decide) (by decide) (by decide), e 3 (by decide) (by decide) (by decide), e 4 (by decide) (by decide) (by decide), e 6 (by decide) (by decide) (by decide), e 63 (by decide) (by decide) (by decide), e 64 (by decide) (by decide) (by decide), e 65 (by decide) (by decide) (by decide), e 67 (by decide) (by decide) (by decide)]
    exact ⟨a1, a2, a3, eqn_updI a4, a5⟩
  · obtain ⟨w1, w2, w3, w4⟩ := h.2.2.1
    refine ⟨by rw [e59]; exact w1, by rw [e59]; exact w2, by rw [e59]; exact w3, ?_⟩
    rw [e59, n66, e 63 (by decide) (by decide) (by decide), e 64 (by decide) (by decide) (by decide), e 65 (by decide) (by decide) (by decide), e 67 (by decide) (by decide) (by decide)]
    exact w4.lit hp hv
abbrev wN (M : fM) (k n p : Int) : fM := wickM (addK M k n p) k n p
theorem wN_c {k n p : Int} {c : Nat} (h : ¬ (1 ≤ c ∧ c ≤ 6)) (h2 : c ≠ 39) (h3 : c ≠ 59) (h4 : ¬ (63 ≤ c ∧ c ≤ 67)) : wN M k n p c = M c := by
  unfold wN wickM addK fgt
  repeat rw [up_ne (by omega)]
theorem wN_1 {k n p j : Int} : wN M k n p 1 j = if j = 5 then M 1 5 + 1 else M 1 j := by
  simp [wN, wickM, addK, up_app]
theorem wN_59 {k n p j : Int} : wN M k n p 59 j = if j = 12 then M 59 12 + 1 else M 59 j := by
  simp [wN, wickM, addK, up_app]
theorem wN_39 {k n p j : Int} : wN M k n p 39 j = if j = 11 then -1 else M 39 j := by
  simp [wN, wickM, addK, up_app]
theorem wN_a {k n p : Int} : wN M k n p 2 = updI (M 2) (M 1 5) k ∧ wN M k n p 3 = updI (M 3) (M 1 5) n ∧ wN M k n p 4 = updI (M 4) (M 1 5) p ∧ wN M k n p 5 = updI (M 5) (M 1 5) 0 ∧ wN M k n p 6 = updI (M 6) (M 1 5) 0 := by
  refine ⟨?_, ?_, ?_, ?_, ?_⟩ <;> funext i <;> simp [wN, wickM, addK, up_app, updI]
theorem wN_b {k n p : Int} : wN M k n p 63 = updI (M 63) (M 59 12) k ∧ wN M k n p 64 = updI (M 64) (M 59 12) n ∧ wN M k n p 65 = updI (M 65) (M 59 12) p ∧ wN M k n p 66 = updI (M 66) (M 59 12) 0 ∧ wN M k n p 67 = updI (M 67) (M 59 12) 0 := by
  refine ⟨?_, ?_, ?_, ?_, ?_⟩ <;> funext i <;> simp [wN, wickM, addK, up_app, updI]
theorem Rel_wick {k n p : Int} (h : Rel M) (hok : wickOk k n p) (hlt : M 59 12 < 4) : Rel (wN M k n p) := by
  obtain ⟨b1, b2, b3, b4, b5⟩ := wN_a (M := M) (k := k) (n := n) (p := p)
  obtain ⟨d1, d2, d3, d4, d5⟩ := wN_b (M := M) (k := k) (n := n) (p := p)
  obtain ⟨a1, a2, a3, a4, a5⟩ := h.2.1
  have hx := h.2.2.2.2.1.2.1
  have f1 := h.1.1
  have e : ∀ c, ¬ (1 ≤ c ∧ c ≤ 6) → c ≠ 39 → c ≠ 59 → ¬ (63 ≤ c ∧ c ≤ 67) → wN M k n p c = M c := fun c a b c1 d => wN_c a b c1 d
  have e59 : ∀ j, j ≠ 12 → wN M k n p 59 j = M 59 j := fun j hj => by rw [wN_59, if_neg hj]
  have e12 : wN M k n p 59 12 = M 59 12 + 1 := by rw [wN_59, if_pos rfl]
  have e1 : ∀ j, j ≠ 5 → wN M k n p 1 j = M 1 j := fun j hj => by rw [wN_1, if_neg hj]
  refine Rel_chg h (fun c hc => e c (by omega) (by omega) (by omega) (by omega)) (by rw [e 0 (by decide) (by decide) (by decide) (by decide)]) (by rw [e 19 (by decide) (by decide) (by decide) (by decide)]) (by rw [e 19 (by decide) (by decide) (by decide) (by decide)]) (fun j hj => e59 j (by omega)) (by rw [e59 4 (by decide)]; exact hx) (by rw [e12]; omega) (fun i i0 i1 => by rw [d1]; exact updI_ne (by omega)) ⟨by rw [e12, wN_1, if_pos rfl, f1], by rw [e1 6 (by decide), e59 13 (by decide)]; exact h.1.2.1, by rw [e1 7 (by decide), e59 14 (by decide)]; exact h.1.2.2.1, by rw [e1 8 (by decide), e59 4 (by decide)]; exact h.1.2.2.2.1⟩ ?_ ?_ (by rw [wN_39, if_pos rfl]) (by rw [wN_39, if_neg (by decide)])
  · unfold RA
    rw [e12, b1, b2, b3, b4, b5, d1, d2, d3, d4, d5, f1]
    exact ⟨eqn_ext a1, eqn_ext a2, eqn_ext a3, eqn_ext a4, eqn_ext a5⟩
  · obtain ⟨w1, w2, w3, w4⟩ := h.2.2.1
    refine ⟨by rw [e12]; omega, by rw [e59 13 (by decide)]; exact w2, by rw [e59 14 (by decide)]; exact w3, ?_⟩
    rw [e12, d1, d2, d3, d4, d5]
    intro i i0 i1
    unfold updI
    by_cases hi : i = M 59 12
    · rw [if_pos hi, if_pos hi, if_pos hi, if_pos hi, if_pos hi]
      exact ⟨by omega, by omega, by omega, by omega, by omega, fun z => rfl⟩
    · rw [if_neg hi, if_neg hi, if_neg hi, if_neg hi, if_neg hi]
      exact w4 i i0 (by omega)
end Lw
theorem p_light {X : fX} {M K : fM} {d : Nat} {r : Int} {w e : Int} (h : Rel M) (hw : rg w) (he : rg e) (hc : (¬ (0 ≤ w ∧ w < M 1 5 ∧ 1 ≤ e ∧ e ≤ 2) ∧ r = -2 ∧ K = M) ∨ ((0 ≤ w ∧ w < M 1 5 ∧ 1 ≤ e ∧ e ≤ 2) ∧ ¬ (0 < M 4 w ∧ M 5 w + e ≤ 2) ∧ r = -3 ∧ K = M) ∨ ((0 ≤ w ∧ w < M 1 5 ∧ 1 ≤ e ∧ e ≤ 2) ∧ (0 < M 4 w ∧ M 5 w + e ≤ 2) ∧ r = M 5 w + e ∧ K = fgt (up M 5 w (M 5 w + e)))) : fC X (d + 2) mX7_light [.ref (xa X 59), .int (iv w), .int (iv e)] K (QI fun r1 K1 => r1 = r ∧ Rel K1) := by
  obtain ⟨a1, a2, a3, a4, a5⟩ := h.2.1
  have f1 := h.1.1
  rw [f1] at hc
  by_cases hb : 0 ≤ w ∧ w < M 59 12 ∧ 1 ≤ e ∧ e ≤ 2
  · rw [a3 w hb.1 hb.2.1, a4 w hb.1 hb.2.1] at hc
    by_cases hl : 0 < M 65 w ∧ M 66 w + e ≤ 2
    · rcases hc with ⟨z, _⟩ | ⟨_, z, _⟩ | ⟨_, _, e2, e3⟩
      · exact absurd hb z
      · exact absurd hl z
      · unfold fgt at e3
        have ek : ∀ c, 59 ≤ c → K c = M c := fun c hcc => by rw [e3, up_ne (by omega), up_ne (by omega)]
        refine fC.mono (t_X7_light hw he (hi_W h ek)) (fun b2 K1 _ q => ?_)
        rw [ek 59 (by decide), ek 65 (by decide), ek 66 (by decide)] at q
        rcases q with ⟨z, _⟩ | ⟨_, z, _⟩ | ⟨_, _, q2, q3⟩
        · exact absurd hb z
        · exact absurd hl z
        · refine ⟨by rw [q2, e2], ?_⟩
          rw [q3, e3]
          have hr := (h.2.2.1.A w hb.1 hb.2.1).2.2.2.1
          exact Rel_light h hl.1 (by omega)
    · rcases hc with ⟨z, _⟩ | ⟨_, _, e2, e3⟩ | ⟨_, z, _⟩
      · exact absurd hb z
      · rw [e2, e3]
        refine fC.mono (t_X7_light hw he h.2.2.1) (fun b2 K1 _ q => ?_)
        rcases q with ⟨z, _⟩ | ⟨_, _, q2, q3⟩ | ⟨_, z, _⟩
        · exact absurd hb z
        · exact ⟨q2, by rw [q3]; exact h⟩
        · exact absurd z hl
      · exact absurd z hl
  · rcases hc with ⟨_, e2, e3⟩ | ⟨z, _⟩ | ⟨z, _⟩
    · rw [e2, e3]
      refine fC.mono (t_X7_light hw he h.2.2.1) (fun b2 K1 _ q => ?_)
      rcases q with ⟨_, q2, q3⟩ | ⟨z, _⟩ | ⟨z, _⟩
      · exact ⟨q2, by rw [q3]; exact h⟩
      · exact absurd z hb
      · exact absurd z hb
    · exact absurd z hb
    · exact absurd z hb
theorem p_wick {X : fX} {M K : fM} {d : Nat} {r : Int} {k n p : Int} (h : Rel M) (hk : rg k) (hnu : rg n) (hp : rg p) (hc : (¬ wickOk k n p ∧ r = -2 ∧ K = M) ∨ (wickOk k n p ∧ M 1 5 = 4 ∧ r = -4 ∧ K = M) ∨ (wickOk k n p ∧ M 1 5 < 4 ∧ r = M 1 5 ∧ K = addK M k n p)) : fC X (d + 1) mX7_wick [.ref (xa X 59), .int (iv k), .int (iv n), .int (iv p)] K (QI fun r1 K1 => r1 = r ∧ Rel K1) := by
  have f1 := h.1.1
  have hn := h.2.2.1.1
  rw [f1] at hc
  by_cases hb : wickOk k n p
  · rcases hc with ⟨z, _⟩ | ⟨_, c1, e2, e3⟩ | ⟨_, c1, e2, e3⟩
    · exact absurd hb z
    · rw [e2, e3]
      refine fC.mono (t_X7_wick hk hnu hp hn) (fun b2 K1 _ q => ?_)
      rcases q with ⟨z, _⟩ | ⟨_, _, q2, q3⟩ | ⟨_, z, _⟩
      · exact absurd hb z
      · exact ⟨q2, by rw [q3]; exact h⟩
      · omega
    · have e59 : K 59 = M 59 := by rw [e3]; exact addK_ge (by decide)
      refine fC.mono (t_X7_wick hk hnu hp (by rw [e59]; exact hn)) (fun b2 K1 _ q => ?_)
      rw [e59] at q
      rcases q with ⟨z, _⟩ | ⟨_, z, _⟩ | ⟨_, _, q2, q3⟩
      · exact absurd hb z
      · omega
      · exact ⟨by rw [q2, e2], by rw [q3, e3]; exact Rel_wick h hb c1⟩
  · rcases hc with ⟨_, e2, e3⟩ | ⟨z, _⟩ | ⟨z, _⟩
    · rw [e2, e3]
      refine fC.mono (t_X7_wick hk hnu hp hn) (fun b2 K1 _ q => ?_)
      rcases q with ⟨_, q2, q3⟩ | ⟨z, _⟩ | ⟨z, _⟩
      · exact ⟨q2, by rw [q3]; exact h⟩
      · exact absurd z hb
      · exact absurd z hb
    · exact absurd z hb
    · exact absurd z hb
