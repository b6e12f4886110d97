/-! the text that stands at the start -/
def b0L : List Int := [99, 111, 115, 116, 115, 32, 49, 32, 59, 32, 119, 111, 114, 116, 104, 32, 115, 112, 97, 110, 32, 59, 32, 100, 114, 105, 102, 116, 32, 49, 32, 59]
def b0 (i : Int) : Int := b0L.getD i.toNat 0
def z0c (k : Int) : List Int := match rdZ b0 32 (rdP b0 32 k.toNat) k with
  | .ok z => pcd z
  | .error _ => []
theorem z0_0 : z0c 0 = [1] := by decide +kernel
theorem z0_1 : z0c 1 = [1, 10005] := by decide +kernel
theorem z0_2 : z0c 2 = [1, 10005, 1] := by decide +kernel
theorem z0_F : (match rdF b0 32 with
  | .ok _ => true
  | .error _ => false) = true := by decide +kernel
section T0
theorem rdF_ok : ∃ y, rdF b0 32 = .ok y := by
  have h := z0_F
  cases hE : rdF b0 32 with
  | ok y => exact ⟨y, rfl⟩
  | error p => rw [hE] at h; cases h
theorem tx0 {M : fM} (h0 : M 22 0 = 1) (h1 : M 22 1 = 10005) (h2 : M 22 2 = 1) (h29 : ∀ k, 0 ≤ k → k ≤ 3 → M 29 k = k) : ∀ k, 0 ≤ k → k ≤ 2 → TXs M 0 k (vtx b0 32 k) := by
  obtain ⟨y, hy⟩ := rdF_ok
  obtain ⟨y3, h3, _⟩ := eb_inv hy
  have h3 : rdW b0 32 (rdP b0 32 2) ((2 : Nat) : Int) = .ok y3 := h3
  obtain ⟨y2, z2, q1, q2, q3, q4, q5, q6, s2, q7, q8⟩ := rdW_wf (k := ((2 : Nat) : Int)) (by omega) h3 (rdP_we (by decide) 2)
  obtain ⟨y1, z1, r1, r2, r3, r4, r5, r6, s1, r7, r8⟩ := rdW_wf (k := ((1 : Nat) : Int)) (by omega) q1 (rdP_we (by decide) 1)
  obtain ⟨y0, z0, p1, p2, p3, p4, p5, p6, s0, p7, p8⟩ := rdW_wf (k := ((0 : Nat) : Int)) (by omega) r1 (rdP_we (by decide) 0)
  have e0 : pcd y0 = [] := (rd0_wf (by decide) p1).2
  have c0 : pcd z0 = [1] := by
    have := z0_0
    unfold z0c at this
    rw [show rdZ b0 32 (rdP b0 32 (0 : Int).toNat) 0 = .ok z0 from p2] at this
    exact this
  have c1 : pcd z1 = [1, 10005] := by
    have := z0_1
    unfold z0c at this
    rw [show rdZ b0 32 (rdP b0 32 (1 : Int).toNat) 1 = .ok z1 from r2] at this
    exact this
  have c2 : pcd z2 = [1, 10005, 1] := by
    have := z0_2
    unfold z0c at this
    rw [show rdZ b0 32 (rdP b0 32 (2 : Int).toNat) 2 = .ok z2 from q2] at this
    exact this
  have t0 : s0 = [1] := by rw [c0, e0] at p7; exact p7.symm
  have t1 : s1 = [10005] := by
    rw [c1, p6, c0] at r7
    exact (List.cons.inj r7).2.symm
  have t2 : s2 = [1] := by
    rw [c2, r6, c1] at q7
    exact (List.cons.inj (List.cons.inj q7).2).2.symm
  have v0 : vtx b0 32 0 = pv z0 := vtx_at (k := 0) p2
  have v1 : vtx b0 32 1 = pv z1 := vtx_at (k := 1) r2
  have v2 : vtx b0 32 2 = pv z2 := vtx_at (k := 2) q2
  intro k k0 k1
  have g : TXs M 0 k (vtx b0 32 k) ↔ (0 ≤ M 29 k ∧ M 29 k ≤ M 29 (k + 1) ∧ M 29 (k + 1) ≤ 160) ∧ Sg (slc (M 22) (M 29 k) (M 29 (k + 1) - M 29 k).toNat) (vtx b0 32 k) := Iff.rfl
  rw [g, h29 k k0 (by omega), h29 (k + 1) (by omega) (by omega)]
  refine ⟨by omega, ?_⟩
  rw [show (k + 1 - k).toNat = 1 by omega]
  rcases (show k = 0 ∨ k = 1 ∨ k = 2 by omega) with e | e | e
  · subst e
    rw [v0, show slc (M 22) 0 1 = [M 22 0] from rfl, h0, ← t0]; exact p8
  · subst e
    rw [v1, show slc (M 22) 1 1 = [M 22 1] from rfl, h1, ← t1]; exact r8
  · subst e
    rw [v2, show slc (M 22) 2 1 = [M 22 2] from rfl, h2, ← t2]; exact q8
end T0
