/-! pairs: set, burn -/
section Sc
variable {M K : fM}
theorem Rel_set3 {q f v : Int} (h : Rel M) (hq : q = 0 ∨ q = 1 ∨ q = 2 ∨ q = 3) (hf : 0 ≤ f ∧ f < M 59 12) (hv : 0 ≤ v ∧ (q = 0 → v ≤ 99) ∧ (q = 1 → v ≤ 2) ∧ (q = 2 → v ≤ 999) ∧ (q = 3 → v ≤ 9)) (hst : ¬ (q = 1 ∧ 0 < v ∧ M 65 f = 0)) : Rel (sN4 M q f v) := by
  have so : ∀ c, ¬ (3 ≤ c ∧ c ≤ 6) → ¬ (64 ≤ c ∧ c ≤ 67) → sN4 M q f v c = up M 39 11 (-1) c := fun c b d => set_o hq b d
  obtain ⟨w1, w2, w3, w4⟩ := h.2.2.1
  obtain ⟨a1, a2, a3, a4, a5⟩ := h.2.1
  have s1 : sN4 M q f v 1 = M 1 := by rw [so 1 (by decide) (by decide), up_ne (by decide)]
  have s59 : sN4 M q f v 59 = M 59 := by rw [so 59 (by decide) (by decide), up_ne (by decide)]
  refine Rel_arr h (fun c a b c1 d g => by rw [so c b g, up_ne c1]) (fun k _ _ => by rw [s1]) (fun k _ _ => by rw [s59]) (by rw [s1, s59]; exact ⟨h.1.2.1, w2⟩) (by rw [s1, s59]; exact ⟨h.1.2.2.1, w3⟩) (by rw [so 39 (by decide) (by decide), up_app, if_pos ⟨rfl, rfl⟩]) (by rw [so 39 (by decide) (by decide), up_app, if_neg (fun z => absurd z.2 (by decide))]) (fun i a b => ?_)
  obtain ⟨v3, v4, v5, v6, v64, v65, v66, v67⟩ := set_v (M := M) (q := q) (f := f) (v := v) hq i
  rw [v3, v4, v5, v6, v64, v65, v66, v67]
  have b2 := a2 i a b
  have b3 := a3 i a b
  have b4 := a4 i a b
  have b5 := a5 i a b
  have bf := a3 f hf.1 hf.2
  have bg := a4 f hf.1 hf.2
  have wi := (w4 i a b).2
  have wf := (w4 f hf.1 hf.2).2
  clear v3 v4 v5 v6 v64 v65 v66 v67 w4 a1 a2 a3 a4 a5 so s1 s59 w1 w2 w3
  by_cases hi : i = f
  · subst hi
    rcases hq with rfl | rfl | rfl | rfl
    · by_cases hz : v = 0
      · subst hz
        simp
        omega
      · simp [hz]
        omega
    · by_cases hz : M 4 i = 0
      · have hv0 : v = 0 := by omega
        subst hv0
        simp [hz]
        omega
      · simp [hz]
        omega
    · by_cases hz : M 4 i = 0 <;> simp [hz] <;> omega
    · by_cases hz : M 4 i = 0 <;> simp [hz] <;> omega
  · simp [hi]
    omega
/-! burning -/
section Bc
variable {n : Int} {A B P L C A' B' P' L' C' : Int → Int} {d i : Int}
theorem burn_cg (h1 : A' i = A i) (h2 : B' i = B i) (h3 : P' i = P i) (h4 : L' i = L i) (h5 : C' i = C i) : burnP A' B' P' L' d n i = burnP A B P L d n i ∧ burnL A' B' P' L' d n i = burnL A B P L d n i ∧ burnB A' B' P' L' C' d n i = burnB A B P L C d n i ∧ burnO A' B' P' L' d n i = burnO A B P L d n i := by
  unfold burnP burnL burnB burnO burnE
  rw [h1, h2, h3, h4, h5]
  exact ⟨rfl, rfl, rfl, rfl⟩
end Bc
def bK (M : fM) (n : Int) : fM := up (bMc (up M 39 11 (-1)) 1 n (M 1 5)) 1 7 (min 9999 (M 1 7 + n))
def bN (K : fM) (n : Int) : fM := up (bMm K n (K 59 12)) 59 14 (min 9999 (K 59 14 + n))
theorem bK_c {n : Int} {c : Nat} (h : c ≠ 1) (h2 : ¬ (4 ≤ c ∧ c ≤ 6)) (h3 : c ≠ 39) : bK M n c = M c := by
  funext i
  unfold bK
  rw [up_ne h]
  show burnG (1 + 3) (1 + 4) (1 + 5) _ _ _ _ _ _ n _ (up M 39 11 (-1)) c i = _
  rw [burnG_ne (by omega), up_ne h3]
theorem bN_c {n : Int} {c : Nat} (h : c ≠ 59) (h2 : ¬ (65 ≤ c ∧ c ≤ 67)) : bN K n c = K c := by
  funext i
  unfold bN
  rw [up_ne h]
  exact burnG_ne (by omega)
theorem Rel_burn {n : Int} (h : Rel M) (hn : 0 ≤ n ∧ n ≤ 250) : Rel (bN (bK M n) n) := by
  have hi : ∀ c, 59 ≤ c → bK M n c = M c := fun c hc => bK_c (by omega) (by omega) (by omega)
  have wk : WfM (bK M n) := hi_W h hi
  have hm := h.2.2.1.2.2.1
  have wb := wk.burn (t := n) (v := min 9999 (bK M n 59 14 + n)) hn (by rw [hi 59 (by decide)]; omega)
  have wb : WfM (bN (bK M n) n) := wb
  obtain ⟨a1, a2, a3, a4, a5⟩ := h.2.1
  have f1 := h.1.1
  have f2 := h.1.2.1
  have n59 : ∀ k, k ≠ 14 → bN (bK M n) n 59 k = M 59 k := fun k hk => by
    unfold bN
    rw [up_app, if_neg (fun z => hk z.2), bMm_59, hi 59 (by decide)]
  have n5914 : bN (bK M n) n 59 14 = min 9999 (M 59 14 + n) := by
    unfold bN
    rw [up_app, if_pos ⟨rfl, rfl⟩, hi 59 (by decide)]
  have lo : ∀ c, c < 59 → bN (bK M n) n c = bK M n c := fun c hc => bN_c (by omega) (by omega)
  have n1 : ∀ k, k ≠ 7 → bN (bK M n) n 1 k = M 1 k := fun k hk => by
    rw [lo 1 (by decide)]
    unfold bK
    rw [up_app, if_neg (fun z => hk z.2)]
    show burnG (1 + 3) (1 + 4) (1 + 5) _ _ _ _ _ _ n _ (up M 39 11 (-1)) 1 k = _
    rw [burnG_ne (by decide), up_ne (by decide)]
  have n17 : bN (bK M n) n 1 7 = min 9999 (M 1 7 + n) := by
    rw [lo 1 (by decide)]
    unfold bK
    rw [up_app, if_pos ⟨rfl, rfl⟩]
  have n39 : ∀ k, bN (bK M n) n 39 k = up M 39 11 (-1) 39 k := fun k => by
    rw [lo 39 (by decide)]
    unfold bK
    rw [up_ne (by decide)]
    exact burnG_ne (by decide)
  refine Rel_arr h (fun c a b c1 d g => ?_) (fun k _ hk => n1 k hk) (fun k _ hk => n59 k hk) (by rw [n1 6 (by decide), n59 13 (by decide)]; exact ⟨f2, h.2.2.1.2.1⟩) (by rw [n17, n5914, h.1.2.2.1]; exact ⟨rfl, by omega⟩) (by rw [n39, up_app, if_pos ⟨rfl, rfl⟩]) (by rw [n39, up_app, if_neg (fun z => absurd z.2 (by decide))]) (fun i i0 i1 => ?_)
  · rw [bN_c d (by omega), bK_c a (by omega) c1]
  · have w := wb.A i i0 (by rw [n59 12 (by decide)]; exact i1)
    refine ⟨?_, w.2⟩
    have i2 : i < M 1 5 := by rw [f1]; exact i1
    have k4 : bK M n 4 i = burnP (M 2) (M 3) (M 4) (M 5) (M 1 6) n i := by
      unfold bK
      rw [up_ne (by decide)]
      simp [burnG, i0, i2, up_ne]
    have k5 : bK M n 5 i = burnL (M 2) (M 3) (M 4) (M 5) (M 1 6) n i := by
      unfold bK
      rw [up_ne (by decide)]
      simp [burnG, i0, i2, up_ne]
    have k6 : bK M n 6 i = burnB (M 2) (M 3) (M 4) (M 5) (M 6) (M 1 6) n i := by
      unfold bK
      rw [up_ne (by decide)]
      simp [burnG, i0, i2, up_ne]
    have e12 : bK M n 59 12 = M 59 12 := by rw [hi 59 (by decide)]
    have m5 : bN (bK M n) n 65 i = burnP (M 63) (M 64) (M 65) (M 66) (M 59 13) n i := by
      unfold bN
      rw [up_ne (by decide), e12]
      simp only [bMm]
      rw [hi 63 (by decide), hi 64 (by decide), hi 65 (by decide), hi 66 (by decide), hi 67 (by decide), hi 59 (by decide)]
      simp [burnG, i0, i1]
    have m6 : bN (bK M n) n 66 i = burnL (M 63) (M 64) (M 65) (M 66) (M 59 13) n i := by
      unfold bN
      rw [up_ne (by decide), e12]
      simp only [bMm]
      rw [hi 63 (by decide), hi 64 (by decide), hi 65 (by decide), hi 66 (by decide), hi 67 (by decide), hi 59 (by decide)]
      simp [burnG, i0, i1]
    have m7 : bN (bK M n) n 67 i = burnB (M 63) (M 64) (M 65) (M 66) (M 67) (M 59 13) n i := by
      unfold bN
      rw [up_ne (by decide), e12]
      simp only [bMm]
      rw [hi 63 (by decide), hi 64 (by decide), hi 65 (by decide), hi 66 (by decide), hi 67 (by decide), hi 59 (by decide)]
      simp [burnG, i0, i1]
    have bc := burn_cg (n := n) (d := M 59 13) (a1 i i0 i1) (a2 i i0 i1) (a3 i i0 i1) (a4 i i0 i1) (a5 i i0 i1)
    rw [lo 3 (by decide), lo 4 (by decide), lo 5 (by decide), lo 6 (by decide), k4, k5, k6, m5, m6, m7, f2, bc.1, bc.2.1, bc.2.2.1, bK_c (by decide) (by decide) (by decide), bN_c (c := 64) (by decide) (by decide), hi 64 (by decide)]
    exact ⟨a2 i i0 i1, rfl, rfl, rfl⟩
end Sc
theorem p_burn {X : fX} {M K : fM} {d : Nat} {r : Int} {n : Int} (h : Rel M) (hr : rg n) (hc : (¬ (0 ≤ n ∧ n ≤ 250) ∧ r = -2 ∧ K = M) ∨ ((0 ≤ n ∧ n ≤ 250) ∧ r = sumZ (bOc (fgt M) 1 n) (M 1 5) ∧ K = up (bMc (fgt M) 1 n (M 1 5)) 1 7 (min 9999 (M 1 7 + n)))) : fC X (d + 2) mX7_burn [.ref (xa X 59), .int (iv n)] K (QI fun r1 K1 => r1 = r ∧ Rel K1) := by
  rcases hc with ⟨c1, e2, e3⟩ | ⟨c1, e2, e3⟩
  · rw [e2, e3]
    refine fC.mono (t_X7_burn hr h.2.2.1) (fun b2 K1 _ q => ?_)
    rcases q with ⟨_, q2, q3⟩ | ⟨z, _⟩
    · exact ⟨q2, by rw [q3]; exact h⟩
    · exact absurd z c1
  · have e3 : K = bK M n := e3
    have hi : ∀ c, 59 ≤ c → K c = M c := fun c hcc => by rw [e3]; exact bK_c (by omega) (by omega) (by omega)
    refine fC.mono (t_X7_burn hr (hi_W h hi)) (fun b2 K1 _ q => ?_)
    rcases q with ⟨z, _⟩ | ⟨_, q2, q3⟩
    · exact absurd c1 z
    · refine ⟨?_, ?_⟩
      · rw [q2, e2, hi 59 (by decide), h.1.1]
        refine sumZ_cg (fun i a b => ?_)
        show burnO (K 63) (K 64) (K 65) (K 66) (K 59 13) n i = burnO (M 2) (M 3) (M 4) (M 5) (M 1 6) n i
        rw [hi 63 (by decide), hi 64 (by decide), hi 65 (by decide), hi 66 (by decide), hi 59 (by decide), h.1.2.1]
        exact (burn_cg (n := n) (C := fun _ => 0) (C' := fun _ => 0) (h.2.1.1 i a b) (h.2.1.2.1 i a b) (h.2.1.2.2.1 i a b) (h.2.1.2.2.2.1 i a b) rfl).2.2.2.symm
      · rw [q3, show up (bMm K n (K 59 12)) 59 14 (min 9999 (K 59 14 + n)) = bN K n from rfl, e3]
        exact Rel_burn h c1
theorem setK_hi {M : fM} {q f v : Int} {c : Nat} (hc : 59 ≤ c) : setK M q f v c = M c := by
  have ha : chgA 1 q ≤ 6 := by unfold chgA; (repeat' split) <;> omega
  unfold setK chgM fgt
  split
  · rw [up_ne (by omega), up_ne (by omega)]
  · split
    · rw [up_ne (by omega), up_ne (by omega)]
    · split
      · split
        · rw [up_ne (by omega), up_ne (by omega), up_ne (by omega)]
        · rw [up_ne (by omega), up_ne (by omega)]
      · split
        · rw [up_ne (by omega), up_ne (by omega), up_ne (by omega)]
        · rw [up_ne (by omega), up_ne (by omega)]
theorem p_set {X : fX} {M K : fM} {d : Nat} {r : Int} {q of v : Int} (h : Rel M) (hq : rg q) (ho : rg of) (hv : rg v) (hc : (¬ setOk (M 1 5) q of v ∧ r = -2 ∧ K = M) ∨ (setOk (M 1 5) q of v ∧ (q = 1 ∧ 0 < v ∧ M 4 of = 0) ∧ r = -3 ∧ K = M) ∨ (setOk (M 1 5) q of v ∧ ¬ (q = 1 ∧ 0 < v ∧ M 4 of = 0) ∧ r = setR (M 3) (M 4) (M 5) (M 6) (M 1 6) (M 1 7) q of ∧ K = setK M q of v)) : fC X (d + 2) mX7_set [.ref (xa X 59), .int (iv q), .int (iv of), .int (iv v)] K (QI fun r1 K1 => r1 = r ∧ Rel K1) := by
  have f1 := h.1.1
  have hn := h.2.2.1.1
  obtain ⟨a1, a2, a3, a4, a5⟩ := h.2.1
  rw [f1] at hc
  have hst : setOk (M 59 12) q of v → ((q = 1 ∧ 0 < v ∧ M 4 of = 0) ↔ (q = 1 ∧ 0 < v ∧ M 65 of = 0)) := fun hk => by
    constructor
    · rintro ⟨z1, z2, z3⟩
      have hw := hk.2.1 (by omega)
      rw [a3 of hw.1 hw.2] at z3
      exact ⟨z1, z2, z3⟩
    · rintro ⟨z1, z2, z3⟩
      have hw := hk.2.1 (by omega)
      rw [← a3 of hw.1 hw.2] at z3
      exact ⟨z1, z2, z3⟩
  rcases hc with ⟨c1, e2, e3⟩ | ⟨c1, c2, e2, e3⟩ | ⟨c1, c2, e2, e3⟩
  · rw [e2, e3]
    refine fC.mono (t_X7_set hq ho hv hn) (fun b2 K1 _ z => ?_)
    rcases z with ⟨_, q2, q3⟩ | ⟨z, _⟩ | ⟨z, _⟩
    · exact ⟨q2, by rw [q3]; exact h⟩
    · exact absurd z c1
    · exact absurd z c1
  · rw [e2, e3]
    refine fC.mono (t_X7_set hq ho hv hn) (fun b2 K1 _ z => ?_)
    rcases z with ⟨z, _⟩ | ⟨_, _, q2, q3⟩ | ⟨_, z, _⟩
    · exact absurd c1 z
    · exact ⟨q2, by rw [q3]; exact h⟩
    · exact absurd ((hst c1).mp c2) z
  · have hi : ∀ c, 59 ≤ c → K c = M c := fun c hcc => by rw [e3]; exact setK_hi hcc
    refine fC.mono (t_X7_set hq ho hv (by rw [hi 59 (by decide)]; exact hn)) (fun b2 K1 _ z => ?_)
    rw [hi 59 (by decide), hi 64 (by decide), hi 65 (by decide), hi 66 (by decide), hi 67 (by decide)] at z
    rcases z with ⟨z, _⟩ | ⟨_, z, _⟩ | ⟨_, _, q2, q3⟩
    · exact absurd c1 z
    · exact absurd ((hst c1).mpr z) c2
    · refine ⟨?_, ?_⟩
      · rw [q2, e2, h.1.2.1, h.1.2.2.1]
        exact (setR_cg a2 a3 a4 a5 c1.2.1).symm
      · rw [q3, e3]
        obtain ⟨k1, k2, k3, k4⟩ := c1
        show Rel (sN4 M q of v)
        rcases (show q = 4 ∨ q = 5 ∨ (q = 0 ∨ q = 1 ∨ q = 2 ∨ q = 3) by omega) with y | y | y
        · exact Rel_set4 h y ⟨k3, by subst y; simpa using k4⟩
        · exact Rel_set5 h y ⟨k3, by subst y; simpa using k4⟩
        · refine Rel_set3 h y (k2 (by omega)) ⟨k3, fun u => ?_, fun u => ?_, fun u => ?_, fun u => ?_⟩ (fun u => c2 ((hst ⟨k1, k2, k3, k4⟩).mpr u))
          · subst u; simpa using k4
          · subst u; simpa using k4
          · subst u; simpa using k4
          · subst u; simpa using k4
