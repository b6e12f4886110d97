/-! pair: text -/
section Tx
variable {M K K1 : fM} {W : Int → pV}
/-- the texts taken before stay -/
def oldT (M K1 : fM) : Prop := (∀ c, (22 ≤ c ∧ c ≤ 34) → c ≠ 22 + (M 59 3).toNat → c ≠ 29 + (M 59 3).toNat → K1 c = M c) ∧ (∀ j, j < 160 * M 59 3 → K1 60 j = M 60 j) ∧ ∀ j, j ≠ M 59 3 → K1 61 j = M 61 j
theorem oldT.m (h : oldT M K1) (h6 : M 59 3 ≤ 6) {t n : Int} {B : Int → Int} (h0 : 0 ≤ t) (h1 : t < M 59 3) (hm : mTx M t B n) : mTx K1 t B n := by
  obtain ⟨m1, m2, m3, m4⟩ := hm
  refine ⟨by rw [h.2.2 t (by omega)]; exact m1, m2, fun i a b => ?_, m4⟩
  rw [h.2.1 (160 * t + i) (by omega)]
  exact m3 i a b
theorem oldT.t (h : oldT M K1) (h6 : M 59 3 ≤ 6) {t k : Int} {v : pV} (h0 : 0 ≤ t) (h1 : t < M 59 3) (hm : TXs M t k v) : TXs K1 t k v := by
  unfold TXs at *
  have e1 : K1 (22 + t.toNat) = M (22 + t.toNat) := h.1 _ (by omega) (by omega) (by omega)
  by_cases hc : M 59 3 ≤ 5 ∨ True
  · have e2 : K1 (29 + t.toNat) = M (29 + t.toNat) := h.1 _ (by omega) (by omega) (by omega)
    rw [e1, e2]
    exact hm
  · exact absurd (Or.inr trivial) hc
theorem Rel_text (h : Rel M) (hlt : M 59 3 < 6) (ho : oldT M K1) (e : ∀ c, c ≠ 19 → c ≠ 37 → c ≠ 59 → c ≠ 60 → c ≠ 61 → c ≠ 22 + (M 59 3).toNat → c ≠ 29 + (M 59 3).toNat → K1 c = M c) (e59 : ∀ k, (k < 21 ∨ 29 < k) → k ≠ 3 → k ≠ 6 → K1 59 k = M 59 k) (e6 : K1 59 6 = 0) (e196 : K1 19 6 = 0) (hcnt : (K1 59 3 = M 59 3 ∧ K1 19 7 = M 19 7) ∨ (K1 59 3 = M 59 3 + 1 ∧ K1 19 7 = M 19 7 + 1 ∧ ∃ B n, mTx K1 (M 59 3) B n ∧ ∀ k, 0 ≤ k → k ≤ 2 → TXs K1 (M 59 3) k (vtx B n k))) : Rel K1 := by
  obtain ⟨⟨f1, f2, f3, f4, f5, f6⟩, hA, hW, hT, ⟨x1, x2, x3⟩, hK, hH, ⟨W, ⟨⟨g1, B, n, g2, g3⟩, g4⟩, hkn⟩, h9⟩ := id h
  have ee : ∀ c, c < 19 ∨ (37 < c ∧ c ≠ 59 ∧ c ≠ 60 ∧ c ≠ 61) ∨ c = 20 → K1 c = M c := fun c hc => e c (by omega) (by omega) (by omega) (by omega) (by omega) (by omega) (by omega)
  have q1 := ee 1 (by omega)
  have r4 := e59 4 (by omega) (by decide) (by decide)
  refine ⟨⟨by rw [q1, e59 12 (by omega) (by decide) (by decide)]; exact f1, by rw [q1, e59 13 (by omega) (by decide) (by decide)]; exact f2, by rw [q1, e59 14 (by omega) (by decide) (by decide)]; exact f3, by rw [q1, r4]; exact f4, by rw [e196, e6], ?_⟩, ?_, hW.eq (fun k _ _ => e59 k (by omega) (by omega) (by omega)) (fun c _ _ => ee c (by omega)), ⟨by omega, fun i a b => by omega⟩, ⟨?_, ?_, fun t a b => ?_⟩, hK.eq (by rw [ee 0 (by omega)]) (fun k _ _ => e59 k (by omega) (by omega) (by omega)) (by rw [e59 12 (by omega) (by decide) (by decide)]; exact Int.le_refl _) (by rcases hcnt with z | z <;> omega) (fun c _ _ => ee c (by omega)) (fun i _ _ => by rw [ee 63 (by omega)]) (ee 83 (by omega)), hH.eq (fun c _ => ee c (by omega)), ⟨W, ⟨⟨by rw [r4]; exact g1, B, n, by rw [r4]; exact ho.m (by omega) x2.1 x2.2 g2, g3⟩, fun k a b => by rw [r4]; exact ho.t (by omega) x2.1 x2.2 (g4 k a b)⟩, hkn.same (fun c _ => ee c (by omega))⟩, h9.eq (fun c _ => ee c (by omega))⟩
  · rcases hcnt with z | z
    · rw [z.1, z.2]; exact f6
    · rw [z.1, z.2.1, f6]
  · unfold RA
    rw [e59 12 (by omega) (by decide) (by decide), ee 2 (by omega), ee 3 (by omega), ee 4 (by omega), ee 5 (by omega), ee 6 (by omega), ee 63 (by omega), ee 64 (by omega), ee 65 (by omega), ee 66 (by omega), ee 67 (by omega)]
    exact hA
  · rcases hcnt with z | z <;> omega
  · rw [r4]
    rcases hcnt with z | z <;> omega
  · by_cases ht : t < M 59 3
    · obtain ⟨B', n', p, q⟩ := x3 t a ht
      exact ⟨B', n', ho.m (by omega) a ht p, fun k k0 k1 => ho.t (by omega) a ht (q k k0 k1)⟩
    · rcases hcnt with z | ⟨z1, z2, z3⟩
      · omega
      · have : t = M 59 3 := by omega
        rw [this]; exact z3
theorem p_text {X : fX} {d : Nat} {r : Int} (h : Rel M) (hc : tkQ M r K) : fC X (d + 48) mX7_text [.ref (xa X 59)] K (QI fun r1 K1 => r1 = r ∧ Rel K1) := by
  have f6 := h.1.2.2.2.2.2
  have f5 := h.1.2.2.2.2.1
  have hT := h.2.2.2.1
  have hX := h.2.2.2.2.1
  unfold tkQ at hc
  rw [f6, f5] at hc
  rcases hc with ⟨c1, e2, e3⟩ | ⟨c1, c2, c3, c4⟩
  · rw [e2, e3]
    refine fC.mono (t_X7_text (B := M 20) (by omega) hT.1 (fun i a b => (hT.2 i a b).1) (fun i a b => (hT.2 i a b).2)) (fun b2 K1 _ q => ?_)
    rcases q with ⟨_, q2, q3⟩ | ⟨z, _⟩
    · exact ⟨q2, by rw [q3]; exact h⟩
    · omega
  · have hx1 := hX.1
    have hi : ∀ c, 38 ≤ c → K c = M c := fun c hcc => c3 c (by omega) (by omega) (by omega) (by omega)
    have e59 := hi 59 (by decide)
    have e62 := hi 62 (by decide)
    refine fC.mono (t_X7_text (B := M 20) (by rw [e59]; omega) (by rw [e59]; exact hT.1) (fun i a b => by rw [e62]; rw [e59] at b; exact (hT.2 i a b).1) (fun i a b => by rw [e59] at b; exact (hT.2 i a b).2)) (fun b2 K1 _ q => ?_)
    unfold txQ at q
    rw [e59, hi 60 (by decide), hi 61 (by decide)] at q
    rcases q with ⟨z, _⟩ | ⟨_, q2, q3, q4, q5, q6, q7⟩
    · omega
    · have e : ∀ c, c ≠ 19 → c ≠ 37 → c ≠ 59 → c ≠ 60 → c ≠ 61 → c ≠ 22 + (M 59 3).toNat → c ≠ 29 + (M 59 3).toNat → K1 c = M c := fun c h1 h2 h3 h4 h5 h6 h7 => by rw [q3 c h3 h4 h5, c3 c h1 h2 h6 h7]
      have lo : ∀ c, c < 59 → K1 c = K c := fun c hcc => q3 c (by omega) (by omega) (by omega)
      have ho : oldT M K1 := ⟨fun c a b d => e c (by omega) (by omega) (by omega) (by omega) (by omega) b d, q5, q6⟩
      have e196 : K1 19 6 = 0 := by rw [lo 19 (by decide)]; exact c2
      rcases q7 with ⟨p, p1, p2, p3, p4⟩ | ⟨p1, p2, p3⟩
      · rcases c4 with ⟨p', s1, s2, s3, s4⟩ | ⟨⟨y, s1⟩, _⟩
        · rw [p1] at s1
          cases s1
          exact ⟨by rw [p3, s3], Rel_text h c1 ho e q4 q2 e196 (Or.inl ⟨p4, by rw [lo 19 (by decide), s4, f6]⟩)⟩
        · rw [p1] at s1; cases s1
      · rcases c4 with ⟨p', s1, s2, s3, s4⟩ | ⟨_, s2, s3, s4⟩
        · obtain ⟨y, hy⟩ := p1.2.2.2.2
          rw [hy] at s1; cases s1
        · refine ⟨by rw [p2, s2], Rel_text h c1 ho e q4 q2 e196 (Or.inr ⟨p3, by rw [lo 19 (by decide), s3, f6], M 20, M 59 6, p1, fun k a b => TXs_congr (by omega) (fun c _ _ => lo c (by omega)) (s4 k a b)⟩)⟩
end Tx
