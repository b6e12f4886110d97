/-! pairs: cell, copy -/
theorem p_cell {X : fX} {M K : fM} {d : Nat} {r : Int} {s i v : Int} (h : Rel M) (hs : rg s) (hi : rg i) (hv : rg v) (hc : (¬ (0 ≤ s ∧ s < 4) ∧ r = -2 ∧ K = M) ∨ ((0 ≤ s ∧ s < 4) ∧ M 55 s = -1 ∧ r = -11 ∧ K = M) ∨ ((0 ≤ s ∧ s < 4) ∧ M 55 s ≠ -1 ∧ ¬ reachP M s i 1 ∧ r = -12 ∧ K = M) ∨ (reachP M s i 1 ∧ r = 1 ∧ K = up M (51 + s.toNat) i (cutZ (M 55 s) v))) : fC X (d + 2) mX7_cell [.ref (xa X 59), .int (iv s), .int (iv i), .int (iv v)] K (QI fun r1 K1 => r1 = r ∧ Rel K1) := by
  have wt := h.WT
  by_cases hs4 : 0 ≤ s ∧ s < 4
  · obtain ⟨g1, g2⟩ := h.2.2.2.2.2.2.1 s hs4.1 hs4.2
    rcases g2 with ⟨o1, o2⟩ | ⟨o1, o2, o3, o4, o5⟩
    · have hr : r = -11 ∧ K = M := by
        rcases hc with ⟨z, _⟩ | ⟨_, _, z1, z2⟩ | ⟨_, z, _⟩ | ⟨z, _⟩
        · exact absurd hs4 z
        · exact ⟨z1, z2⟩
        · exact absurd o1 z
        · exact absurd o1 z.2.1
      rw [hr.1, hr.2]
      refine fC.mono (t_X7_cell hs hi hv wt) (fun b2 K1 _ q => ?_)
      rcases q with ⟨z, _⟩ | ⟨_, _, q2, q3⟩ | ⟨_, z, _⟩ | ⟨_, z, _⟩
      · exact absurd hs4 z
      · exact ⟨q2, by rw [q3]; exact h⟩
      · omega
      · omega
    · by_cases hin : 0 ≤ i ∧ i < M 56 s
      · have hr : r = 1 ∧ K = up M (51 + s.toNat) i (cutZ (M 55 s) v) := by
          rcases hc with ⟨z, _⟩ | ⟨_, z, _⟩ | ⟨_, _, z, _⟩ | ⟨_, z1, z2⟩
          · exact absurd hs4 z
          · omega
          · exact absurd ⟨hs4, by omega, hin.1, by omega, by omega, by omega⟩ z
          · exact ⟨z1, z2⟩
        have hi2 : ∀ c, 57 ≤ c → K c = M c := fun c hcc => by rw [hr.2, up_ne (by omega)]
        have wk : WfT K := by unfold WfT at *; rw [hi2 84 (by decide), hi2 85 (by decide), hi2 86 (by decide)]; exact wt
        refine fC.mono (t_X7_cell hs hi hv wk) (fun b2 K1 _ q => ?_)
        rw [hi2 84 (by decide), hi2 85 (by decide), hi2 86 (by decide), o3, o4] at q
        rcases q with ⟨z, _⟩ | ⟨_, z, _⟩ | ⟨_, _, z, _⟩ | ⟨_, _, _, q2, q3⟩
        · exact absurd hs4 z
        · omega
        · exact absurd hin z
        · refine ⟨by rw [q2, hr.1], ?_⟩
          rw [q3, hr.2]
          exact Rel_cell h hs4 hin
      · have hr : r = -12 ∧ K = M := by
          rcases hc with ⟨z, _⟩ | ⟨_, z, _⟩ | ⟨_, _, _, z1, z2⟩ | ⟨z, _⟩
          · exact absurd hs4 z
          · omega
          · exact ⟨z1, z2⟩
          · exact absurd ⟨z.2.2.1, by have := z.2.2.2.2; omega⟩ hin
        rw [hr.1, hr.2]
        refine fC.mono (t_X7_cell hs hi hv wt) (fun b2 K1 _ q => ?_)
        rw [o4] at q
        rcases q with ⟨z, _⟩ | ⟨_, z, _⟩ | ⟨_, _, _, q2, q3⟩ | ⟨_, _, z, _⟩
        · exact absurd hs4 z
        · omega
        · exact ⟨q2, by rw [q3]; exact h⟩
        · exact absurd z hin
  · have hr : r = -2 ∧ K = M := by
      rcases hc with ⟨_, z1, z2⟩ | ⟨z, _⟩ | ⟨z, _⟩ | ⟨z, _⟩
      · exact ⟨z1, z2⟩
      · exact absurd z hs4
      · exact absurd z hs4
      · exact absurd z.1 hs4
    rw [hr.1, hr.2]
    refine fC.mono (t_X7_cell hs hi hv wt) (fun b2 K1 _ q => ?_)
    rcases q with ⟨_, q2, q3⟩ | ⟨z, _⟩ | ⟨z, _⟩ | ⟨z, _⟩
    · exact ⟨q2, by rw [q3]; exact h⟩
    · exact absurd z hs4
    · exact absurd z hs4
    · exact absurd z hs4
theorem p_copy {X : fX} {M K : fM} {d : Nat} {r : Int} {s i t j n : Int} (h : Rel M) (hs : rg s) (hi : rg i) (ht : rg t) (hj : rg j) (hn : rg n) (hc : (¬ ((0 ≤ s ∧ s < 4) ∧ (0 ≤ t ∧ t < 4)) ∧ r = -2 ∧ K = M) ∨ (((0 ≤ s ∧ s < 4) ∧ (0 ≤ t ∧ t < 4)) ∧ (M 55 s = -1 ∨ M 55 t = -1) ∧ r = -11 ∧ K = M) ∨ (((0 ≤ s ∧ s < 4) ∧ (0 ≤ t ∧ t < 4)) ∧ ¬ (M 55 s = -1 ∨ M 55 t = -1) ∧ M 55 s ≠ M 55 t ∧ r = -13 ∧ K = M) ∨ (((0 ≤ s ∧ s < 4) ∧ (0 ≤ t ∧ t < 4)) ∧ ¬ (M 55 s = -1 ∨ M 55 t = -1) ∧ M 55 s = M 55 t ∧ ¬ (reachP M s i n ∧ reachP M t j n) ∧ r = -12 ∧ K = M) ∨ ((reachP M s i n ∧ reachP M t j n) ∧ M 55 s = M 55 t ∧ r = n ∧ K = cpM M (51 + s.toNat) (51 + t.toNat) i j n)) : fC X (d + 2) mX7_copy [.ref (xa X 59), .int (iv s), .int (iv i), .int (iv t), .int (iv j), .int (iv n)] K (QI fun r1 K1 => r1 = r ∧ Rel K1) := by
  have wt := h.WT
  have hH := h.2.2.2.2.2.2.1
  by_cases hb : (0 ≤ s ∧ s < 4) ∧ (0 ≤ t ∧ t < 4)
  · obtain ⟨gs1, gs2⟩ := hH s hb.1.1 hb.1.2
    obtain ⟨gt1, gt2⟩ := hH t hb.2.1 hb.2.2
    have es : M 55 s = -1 ↔ M 84 s = 0 := by rcases gs2 with z | z; exact ⟨fun _ => z.2, fun _ => z.1⟩; exact ⟨fun y => by have := z.1; omega, fun y => by have := z.2.1; omega⟩
    have et : M 55 t = -1 ↔ M 84 t = 0 := by rcases gt2 with z | z; exact ⟨fun _ => z.2, fun _ => z.1⟩; exact ⟨fun y => by have := z.1; omega, fun y => by have := z.2.1; omega⟩
    by_cases hop : M 55 s = -1 ∨ M 55 t = -1
    · have hop2 : M 84 s = 0 ∨ M 84 t = 0 := hop.imp es.mp et.mp
      have hr : r = -11 ∧ K = M := by
        rcases hc with ⟨z, _⟩ | ⟨_, _, z1, z2⟩ | ⟨_, z, _⟩ | ⟨_, z, _⟩ | ⟨z, _⟩
        · exact absurd hb z
        · exact ⟨z1, z2⟩
        · exact absurd hop z
        · exact absurd hop z
        · exact (hop.elim z.1.2.1 z.2.2.1).elim
      rw [hr.1, hr.2]
      refine fC.mono (t_X7_copy hs hi ht hj hn wt) (fun b2 K1 _ q => ?_)
      rcases q with ⟨z, _⟩ | ⟨_, _, q2, q3⟩ | ⟨_, z, _⟩ | ⟨_, z, _⟩ | ⟨_, z, _⟩
      · exact absurd hb z
      · exact ⟨q2, by rw [q3]; exact h⟩
      · exact absurd hop2 z
      · exact absurd hop2 z
      · exact absurd hop2 z
    · have hop2 : ¬ (M 84 s = 0 ∨ M 84 t = 0) := fun z => hop (z.imp es.mpr et.mpr)
      have ss := (gs2.resolve_left (fun z => hop (Or.inl z.1)))
      have tt := (gt2.resolve_left (fun z => hop (Or.inr z.1)))
      have e85s := ss.2.2.1
      have e85t := tt.2.2.1
      have e86s := ss.2.2.2.1
      have e86t := tt.2.2.2.1
      by_cases hk : M 55 s = M 55 t
      · have hk2 : ¬ M 85 s ≠ M 85 t := fun z => z (by rw [e85s, e85t]; exact hk)
        have hre : (reachP M s i n ∧ reachP M t j n) ↔ (reachM M s i n ∧ reachM M t j n) := by
          rw [show reachM M s i n = (0 ≤ i ∧ 0 ≤ n ∧ i ≤ M 56 s - n) by unfold reachM; rw [e86s], show reachM M t j n = (0 ≤ j ∧ 0 ≤ n ∧ j ≤ M 56 t - n) by unfold reachM; rw [e86t]]
          have a1 := ss.1
          have a2 := tt.1
          constructor
          · rintro ⟨y1, y2⟩
            have u1 := y1.2.2
            have u2 := y2.2.2
            exact ⟨⟨u1.1, u1.2.1, by omega⟩, ⟨u2.1, u2.2.1, by omega⟩⟩
          · rintro ⟨y1, y2⟩
            exact ⟨⟨hb.1, by omega, y1.1, y1.2.1, by omega, by omega⟩, ⟨hb.2, by omega, y2.1, y2.2.1, by omega, by omega⟩⟩
        by_cases hrc : reachP M s i n ∧ reachP M t j n
        · have hr : r = n ∧ K = cpM M (51 + s.toNat) (51 + t.toNat) i j n := by
            rcases hc with ⟨z, _⟩ | ⟨_, z, _⟩ | ⟨_, _, z, _⟩ | ⟨_, _, _, z, _⟩ | ⟨_, _, z1, z2⟩
            · exact absurd hb z
            · exact absurd z hop
            · exact absurd hk z
            · exact absurd hrc z
            · exact ⟨z1, z2⟩
          have hi2 : ∀ c, 57 ≤ c → K c = M c := fun c hcc => by rw [hr.2, cp_ne (by omega)]
          have wk : WfT K := by unfold WfT at *; rw [hi2 84 (by decide), hi2 85 (by decide), hi2 86 (by decide)]; exact wt
          refine fC.mono (t_X7_copy hs hi ht hj hn wk) (fun b2 K1 _ q => ?_)
          have rk : reachM K s i n ∧ reachM K t j n ↔ reachM M s i n ∧ reachM M t j n := by unfold reachM; rw [hi2 86 (by decide)]
          rw [hi2 84 (by decide), hi2 85 (by decide)] at q
          rcases q with ⟨z, _⟩ | ⟨_, z, _⟩ | ⟨_, _, z, _⟩ | ⟨_, _, _, z, _⟩ | ⟨_, _, _, _, q2, q3⟩
          · exact absurd hb z
          · exact absurd z hop2
          · exact absurd z hk2
          · exact absurd (rk.mpr (hre.mp hrc)) z
          · refine ⟨by rw [q2, hr.1], ?_⟩
            rw [q3, hr.2]
            have u1 := hrc.1.2.2
            have u2 := hrc.2.2.2
            exact Rel_copy h hb.1 hb.2 hrc.1.2.1 hrc.2.2.1 ⟨u1.1, u1.2.1, by omega⟩ ⟨u2.1, by omega⟩
        · have hr : r = -12 ∧ K = M := by
            rcases hc with ⟨z, _⟩ | ⟨_, z, _⟩ | ⟨_, _, z, _⟩ | ⟨_, _, _, _, z1, z2⟩ | ⟨z, _⟩
            · exact absurd hb z
            · exact absurd z hop
            · exact absurd hk z
            · exact ⟨z1, z2⟩
            · exact absurd z hrc
          rw [hr.1, hr.2]
          refine fC.mono (t_X7_copy hs hi ht hj hn wt) (fun b2 K1 _ q => ?_)
          rcases q with ⟨z, _⟩ | ⟨_, z, _⟩ | ⟨_, _, z, _⟩ | ⟨_, _, _, _, q2, q3⟩ | ⟨_, _, _, z, _⟩
          · exact absurd hb z
          · exact absurd z hop2
          · exact absurd z hk2
          · exact ⟨q2, by rw [q3]; exact h⟩
          · exact absurd (hre.mpr z) hrc
      · have hk2 : M 85 s ≠ M 85 t := fun z => hk (by rw [← e85s, ← e85t]; exact z)
        have hr : r = -13 ∧ K = M := by
          rcases hc with ⟨z, _⟩ | ⟨_, z, _⟩ | ⟨_, _, _, z1, z2⟩ | ⟨_, _, z, _⟩ | ⟨_, z, _⟩
          · exact absurd hb z
          · exact absurd z hop
          · exact ⟨z1, z2⟩
          · exact absurd z hk
          · exact absurd z hk
        rw [hr.1, hr.2]
        refine fC.mono (t_X7_copy hs hi ht hj hn wt) (fun b2 K1 _ q => ?_)
        rcases q with ⟨z, _⟩ | ⟨_, z, _⟩ | ⟨_, _, _, q2, q3⟩ | ⟨_, _, z, _⟩ | ⟨_, _, z, _⟩
        · exact absurd hb z
        · exact absurd z hop2
        · exact ⟨q2, by rw [q3]; exact h⟩
        · exact absurd z hk2
        · exact absurd z hk2
  · have hr : r = -2 ∧ K = M := by
      rcases hc with ⟨_, z1, z2⟩ | ⟨z, _⟩ | ⟨z, _⟩ | ⟨z, _⟩ | ⟨z, _⟩
      · exact ⟨z1, z2⟩
      · exact absurd z hb
      · exact absurd z hb
      · exact absurd z hb
      · exact absurd ⟨z.1.1, z.2.1⟩ hb
    rw [hr.1, hr.2]
    refine fC.mono (t_X7_copy hs hi ht hj hn wt) (fun b2 K1 _ q => ?_)
    rcases q with ⟨_, q2, q3⟩ | ⟨z, _⟩ | ⟨z, _⟩ | ⟨z, _⟩ | ⟨z, _⟩
    · exact ⟨q2, by rw [q3]; exact h⟩
    · exact absurd z hb
    · exact absurd z hb
    · exact absurd z hb
    · exact absurd z hb
