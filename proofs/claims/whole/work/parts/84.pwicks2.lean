/-! pair: wicks -/
section Wk
variable {M K : fM} {s t a n r : Int}
theorem wk_hi {I : Int → Int} (hn : 0 ≤ M 1 5 ∧ M 1 5 ≤ 4) (w : Int) : ∀ c, 40 ≤ c → itMZ (wkKF I a) M w c = M c := (itMZ_inv (wkQ M) ⟨hn, fun _ _ => rfl⟩ (fun k N h => wkK_Q h) w).2
theorem row_iff (hs : 0 ≤ s ∧ s < 4) (ho : M 55 s ≠ -1) (h6 : M 56 s ≤ 40) (e6 : M 86 s = M 56 s) {j : Int} (h0 : 0 ≤ j) (ha : j = 0 ∨ 0 ≤ a) : wkRowK M s a j ↔ wkRow M s a j := by
  constructor
  · rintro ⟨z1, z2, z3, z4, z5, z6, z7⟩
    exact ⟨by omega, by omega⟩
  · rintro ⟨z1, z2⟩
    exact ⟨by omega, hs, ho, by omega, by omega, by omega, by omega⟩
theorem wk_same {I J : Int → Int} {b w m : Int} (h : Rel M) (hw : 0 ≤ w ∧ w ≤ m) (hK : K = itMZ (wkKF I a) M m) (hI : ∀ k, 0 ≤ k → k < w → I (a + k * 3) = J (b + 3 * k) ∧ I (a + k * 3 + 1) = J (b + 3 * k + 1) ∧ I (a + k * 3 + 2) = J (b + 3 * k + 2)) : Rel (mrg (itMZ (wkKF I a) M w) (itMZ (wkF J b) K w)) := by
  have hn := h.WK.1
  have := mrg_it (n := w) h (K := K) (fun c hc => by rw [hK]; exact wk_hi hn m c (by omega)) hI w.toNat (by omega)
  exact this
theorem wk_rel {I J : Int → Int} {b w : Int} (h : Rel M) (hw : 0 ≤ w) (hK : K = itMZ (wkKF I a) M w) (hI : ∀ k, 0 ≤ k → k < w → I (a + k * 3) = J (b + 3 * k) ∧ I (a + k * 3 + 1) = J (b + 3 * k + 1) ∧ I (a + k * 3 + 2) = J (b + 3 * k + 2)) : Rel (itMZ (wkF J b) K w) := by
  have h1 := wk_same h ⟨hw, Int.le_refl w⟩ hK hI
  have e : mrg K (itMZ (wkF J b) K w) = itMZ (wkF J b) K w := mrg_end (fun c hc => it_lo hc w.toNat)
  rw [← hK, e] at h1
  exact h1
theorem p_wicks {X : fX} {d : Nat} (h : Rel M) (hs : rg s) (ht : rg t) (ha : rg a) (hnn : rg n) (hc : (wkBad s t n ∧ r = -2 ∧ K = M) ∨ (¬ wkBad s t n ∧ M 55 s = -1 ∧ r = -11 ∧ K = M) ∨ (¬ wkBad s t n ∧ M 55 s ≠ -1 ∧ M 55 s ≠ t ∧ r = -13 ∧ K = M) ∨ (¬ wkBad s t n ∧ (M 55 s ≠ -1 ∧ M 55 s = t) ∧ ∃ w, (0 ≤ w ∧ w < n) ∧ (∀ j, 0 ≤ j → j < w → wkRowK M s a j) ∧ ¬ wkRowK M s a w ∧ r = -12 ∧ K = itMZ (wkKF (M (51 + s.toNat)) a) M w) ∨ (¬ wkBad s t n ∧ (M 55 s ≠ -1 ∧ M 55 s = t) ∧ (∀ j, 0 ≤ j → j < n → wkRowK M s a j) ∧ r = sumZ (fun k => wkC (itMZ (wkKF (M (51 + s.toNat)) a) M k 1 5) (M (51 + s.toNat) (a + k * 3)) (M (51 + s.toNat) (a + k * 3 + 1)) (M (51 + s.toNat) (a + k * 3 + 2))) n ∧ K = itMZ (wkKF (M (51 + s.toNat)) a) M n)) : fC X (d + 2) mX7_wicks [.ref (xa X 59), .int (iv s), .int (iv t), .int (iv a), .int (iv n)] K (QI fun r1 K1 => r1 = r ∧ Rel K1) := by
  have wt := h.WT
  have hn4 := h.2.2.1.1
  have hn := h.WK.1
  by_cases hb : wkBad s t n
  · have hr : r = -2 ∧ K = M := by
      rcases hc with ⟨_, z1, z2⟩ | ⟨z, _⟩ | ⟨z, _⟩ | ⟨z, _⟩ | ⟨z, _⟩
      · exact ⟨z1, z2⟩
      · exact absurd hb z
      · exact absurd hb z
      · exact absurd hb z
      · exact absurd hb z
    rw [hr.1, hr.2]
    refine fC.mono (t_X7_wicks hs ht ha hnn wt hn4) (fun b2 K1 _ q => ?_)
    rcases q with ⟨_, q2, q3⟩ | ⟨z, _⟩ | ⟨z, _⟩ | ⟨z, _⟩ | ⟨z, _⟩
    · exact ⟨q2, by rw [q3]; exact h⟩
    · exact absurd hb z
    · exact absurd hb z
    · exact absurd hb z
    · exact absurd hb z
  · have hbb := Classical.not_not.mp hb
    have hs4 := hbb.1
    have hn5 := hbb.2.2
    obtain ⟨g1, g2⟩ := h.2.2.2.2.2.2.1 s hs4.1 hs4.2
    rcases g2 with ⟨o1, o2⟩ | ⟨o1, o2, o3, o4, o5⟩
    · have hr : r = -11 ∧ K = M := by
        rcases hc with ⟨z, _⟩ | ⟨_, _, z1, z2⟩ | ⟨_, z, _⟩ | ⟨_, z, _⟩ | ⟨_, z, _⟩
        · exact absurd z hb
        · exact ⟨z1, z2⟩
        · exact absurd o1 z
        · exact absurd o1 z.1
        · exact absurd o1 z.1
      rw [hr.1, hr.2]
      refine fC.mono (t_X7_wicks hs ht ha hnn wt hn4) (fun b2 K1 _ q => ?_)
      rcases q with ⟨z, _⟩ | ⟨_, z, _⟩ | ⟨_, _, q2, q3⟩ | ⟨_, z, _⟩ | ⟨_, z, _⟩
      · exact absurd z hb
      · omega
      · exact ⟨q2, by rw [q3]; exact h⟩
      · have := z.1; omega
      · have := z.1; omega
    · by_cases hk : M 55 s = t
      · have ho : M 55 s ≠ -1 := by omega
        have key : ∀ w, 0 ≤ w → (∀ j, 0 ≤ j → j < w → wkRowK M s a j) → ∀ k, 0 ≤ k → k < w → M (51 + s.toNat) (a + k * 3) = M 87 (40 * s + a + 3 * k) ∧ M (51 + s.toNat) (a + k * 3 + 1) = M 87 (40 * s + a + 3 * k + 1) ∧ M (51 + s.toNat) (a + k * 3 + 2) = M 87 (40 * s + a + 3 * k + 2) := fun w w0 hrow k k0 k1 => by
          have z := hrow k k0 k1
          have z1 := z.2.2.2
          refine ⟨?_, ?_, ?_⟩
          · rw [o5 (a + k * 3) (by omega) (by omega)]
            show M 87 (40 * s + (a + k * 3)) = _
            congr 1; omega
          · rw [o5 (a + k * 3 + 1) (by omega) (by omega)]
            show M 87 (40 * s + (a + k * 3 + 1)) = _
            congr 1; omega
          · rw [o5 (a + k * 3 + 2) (by omega) (by omega)]
            show M 87 (40 * s + (a + k * 3 + 2)) = _
            congr 1; omega
        have ra : ∀ w, (∀ j, 0 ≤ j → j < w → wkRowK M s a j) → 0 < w → 0 ≤ a := fun w hrow w0 => by
          have z := hrow 0 (by omega) w0
          have := z.2.2.2
          omega
        rcases hc with ⟨z, _⟩ | ⟨_, z, _⟩ | ⟨_, _, z, _⟩ | ⟨_, _, w, w1, w2, w3, e2, e3⟩ | ⟨_, _, w2, e2, e3⟩
        · exact absurd z hb
        · exact absurd z ho
        · exact absurd hk z
        · have hi : ∀ c, 59 ≤ c → K c = M c := fun c hcc => by rw [e3]; exact wk_hi hn w c (by omega)
          have wk : WfT K := by unfold WfT at *; rw [hi 84 (by decide), hi 85 (by decide), hi 86 (by decide)]; exact wt
          have rk : ∀ j, wkRow K s a j ↔ wkRow M s a j := fun j => by unfold wkRow; rw [hi 86 (by decide)]
          refine fC.mono (t_X7_wicks hs ht ha hnn wk (by rw [hi 59 (by decide)]; exact hn4)) (fun b2 K1 _ q => ?_)
          rw [hi 84 (by decide), hi 85 (by decide), hi 87 (by decide)] at q
          rcases q with ⟨z, _⟩ | ⟨_, _, z, _⟩ | ⟨_, z, _⟩ | ⟨_, _, w', y1, y2, y3, q2, q3⟩ | ⟨_, _, y2, _⟩
          · exact absurd z hb
          · exact absurd (by rw [o3]; exact hk) z
          · omega
          · have hw : w' = w := by
              rcases (show w' < w ∨ w' = w ∨ w < w' by omega) with u | u | u
              · have z := w2 w' y1.1 u
                exact absurd ((rk w').mpr ((row_iff hs4 ho g1.2 o4 y1.1 (Or.inr (ra w w2 (by omega)))).mp z)) y3
              · exact u
              · have z := (rk w).mp (y2 w w1.1 u)
                exact absurd ((row_iff hs4 ho g1.2 o4 w1.1 (Or.inr z.1)).mpr z) w3
            subst hw
            refine ⟨by rw [q2, e2], ?_⟩
            rw [q3]
            exact wk_rel h w1.1 e3 (key w' w1.1 w2)
          · exfalso
            have z := (rk w).mp (y2 w w1.1 w1.2)
            exact w3 ((row_iff hs4 ho g1.2 o4 w1.1 (Or.inr z.1)).mpr z)
        · have hi : ∀ c, 59 ≤ c → K c = M c := fun c hcc => by rw [e3]; exact wk_hi hn n c (by omega)
          have wk : WfT K := by unfold WfT at *; rw [hi 84 (by decide), hi 85 (by decide), hi 86 (by decide)]; exact wt
          have rk : ∀ j, wkRow K s a j ↔ wkRow M s a j := fun j => by unfold wkRow; rw [hi 86 (by decide)]
          refine fC.mono (t_X7_wicks hs ht ha hnn wk (by rw [hi 59 (by decide)]; exact hn4)) (fun b2 K1 _ q => ?_)
          rw [hi 84 (by decide), hi 85 (by decide), hi 87 (by decide)] at q
          rcases q with ⟨z, _⟩ | ⟨_, _, z, _⟩ | ⟨_, z, _⟩ | ⟨_, _, w', y1, y2, y3, q2, q3⟩ | ⟨_, _, y2, q2, q3⟩
          · exact absurd z hb
          · exact absurd (by rw [o3]; exact hk) z
          · omega
          · exfalso
            have z := w2 w' y1.1 y1.2
            exact y3 ((rk w').mpr ((row_iff hs4 ho g1.2 o4 y1.1 (Or.inr (ra n w2 (by omega)))).mp z))
          · have kk := key n hn5.1 w2
            refine ⟨?_, by rw [q3]; exact wk_rel h hn5.1 e3 kk⟩
            rw [q2, e2]
            refine sumZ_cg (fun k k0 k1 => ?_)
            have hm := wk_same (w := k) h ⟨k0, by omega⟩ e3 (fun j j0 j1 => kk j j0 (by omega))
            have hf := hm.1.1
            rw [mrg_lo (by decide), mrg_hi (by decide)] at hf
            obtain ⟨u1, u2, u3⟩ := kk k k0 k1
            show wkC _ _ _ _ = wkC _ _ _ _
            rw [hf, u1, u2, u3]
      · have hr : r = -13 ∧ K = M := by
          rcases hc with ⟨z, _⟩ | ⟨_, z, _⟩ | ⟨_, _, _, z1, z2⟩ | ⟨_, z, _⟩ | ⟨_, z, _⟩
          · exact absurd z hb
          · omega
          · exact ⟨z1, z2⟩
          · exact absurd z.2 hk
          · exact absurd z.2 hk
        rw [hr.1, hr.2]
        refine fC.mono (t_X7_wicks hs ht ha hnn wt hn4) (fun b2 K1 _ q => ?_)
        rcases q with ⟨z, _⟩ | ⟨_, _, _, q2, q3⟩ | ⟨_, z, _⟩ | ⟨_, z, _⟩ | ⟨_, z, _⟩
        · exact absurd z hb
        · exact ⟨q2, by rw [q3]; exact h⟩
        · omega
        · exact absurd (by rw [← o3]; exact z.2) hk
        · exact absurd (by rw [← o3]; exact z.2) hk
end Wk
