/-! pairs: image, back -/
section Im
variable {M K : fM}
theorem cp_at {c1 c2 : Nat} {i : Int} (h : 0 ≤ i ∧ i < 4) : cpM M c1 c2 0 0 4 c2 i = M c1 i := by
  unfold cpM
  rw [if_pos (by omega)]
  congr 1
  omega
theorem cp_ne {c1 c2 c : Nat} (h : c ≠ c2) {a b n : Int} : cpM M c1 c2 a b n c = M c := by
  funext i
  unfold cpM
  rw [if_neg (fun z => h z.1)]
theorem tk_o {c b k : Nat} (h : ¬ (c ≤ k ∧ k ≤ c + 5)) : takeC M c b k = M k := by
  unfold takeC cpA
  rw [up_ne (by omega), up_ne (by omega), up_ne (by omega), up_ne (by omega), cp_ne (by omega), cp_ne (by omega), cp_ne (by omega), cp_ne (by omega), cp_ne (by omega)]
theorem tk_a {c b : Nat} (hb : b + 5 < c ∨ c + 5 < b) {i : Int} (h : 0 ≤ i ∧ i < 4) : takeC M c b (c + 1) i = M (b + 1) i ∧ takeC M c b (c + 2) i = M (b + 2) i ∧ takeC M c b (c + 3) i = M (b + 3) i ∧ takeC M c b (c + 4) i = M (b + 4) i ∧ takeC M c b (c + 5) i = M (b + 5) i := by
  unfold takeC cpA
  refine ⟨?_, ?_, ?_, ?_, ?_⟩
  · rw [up_ne (by omega), up_ne (by omega), up_ne (by omega), up_ne (by omega), cp_ne (by omega), cp_ne (by omega), cp_ne (by omega), cp_ne (by omega), cp_at h]
  · rw [up_ne (by omega), up_ne (by omega), up_ne (by omega), up_ne (by omega), cp_ne (by omega), cp_ne (by omega), cp_ne (by omega), cp_at h, cp_ne (by omega)]
  · rw [up_ne (by omega), up_ne (by omega), up_ne (by omega), up_ne (by omega), cp_ne (by omega), cp_ne (by omega), cp_at h, cp_ne (by omega), cp_ne (by omega)]
  · rw [up_ne (by omega), up_ne (by omega), up_ne (by omega), up_ne (by omega), cp_ne (by omega), cp_at h, cp_ne (by omega), cp_ne (by omega), cp_ne (by omega)]
  · rw [up_ne (by omega), up_ne (by omega), up_ne (by omega), up_ne (by omega), cp_at h, cp_ne (by omega), cp_ne (by omega), cp_ne (by omega), cp_ne (by omega)]
theorem tk_f {c b : Nat} {k : Int} (hk : 5 ≤ k ∧ k ≤ 8) : takeC M c b c k = M b k := by
  unfold takeC
  rcases (show k = 5 ∨ k = 6 ∨ k = 7 ∨ k = 8 by omega) with e | e | e | e <;> subst e <;> simp [up_app]
theorem img_o {c : Nat} (h : c ≠ 59) (h2 : c ≠ 83) : imgM K c = K c := by
  unfold imgM
  simp only [up_ne h, up_ne h2]
theorem img_59 {k : Int} : imgM K 59 k = if k = 53 then K 59 12 else if k = 54 then K 59 13 else if k = 55 then K 59 14 else if k = 56 then K 59 4 else K 59 k := by
  unfold imgM
  simp only [up_app, Nat.reduceEqDiff, false_and, true_and, if_false]
  by_cases h3 : k = 53
  · subst h3; simp
  · by_cases h4 : k = 54
    · subst h4; simp
    · by_cases h5 : k = 55
      · subst h5; simp
      · by_cases h6 : k = 56
        · subst h6; simp
        · simp [h3, h4, h5, h6]
theorem img_83 {i : Int} (h : 0 ≤ i ∧ i < 4) : imgM K 83 i = K 65 i ∧ imgM K 83 (4 + i) = K 66 i ∧ imgM K 83 (8 + i) = K 67 i ∧ imgM K 83 (12 + i) = K 64 i := by
  rcases (show i = 0 ∨ i = 1 ∨ i = 2 ∨ i = 3 by omega) with e | e | e | e <;> subst e <;> simp [imgM, up_app]
theorem bck_o {c : Nat} (h : c ≠ 59) (h2 : ¬ (64 ≤ c ∧ c ≤ 67)) : bckM K c = K c := by
  unfold bckM
  simp only [up_ne h, up_ne (show c ≠ 64 by omega), up_ne (show c ≠ 65 by omega), up_ne (show c ≠ 66 by omega), up_ne (show c ≠ 67 by omega)]
theorem bck_59 {k : Int} : bckM K 59 k = if k = 12 then K 59 53 else if k = 13 then K 59 54 else if k = 14 then K 59 55 else if k = 4 then K 59 56 else K 59 k := by
  unfold bckM
  simp only [up_app, Nat.reduceEqDiff, false_and, true_and, if_false]
  by_cases h3 : k = 12
  · subst h3; simp
  · by_cases h4 : k = 13
    · subst h4; simp
    · by_cases h5 : k = 14
      · subst h5; simp
      · by_cases h6 : k = 4
        · subst h6; simp
        · simp [h3, h4, h5, h6]
theorem bck_a {i : Int} (h : 0 ≤ i ∧ i < 4) : bckM K 65 i = K 83 i ∧ bckM K 66 i = K 83 (4 + i) ∧ bckM K 67 i = K 83 (8 + i) ∧ bckM K 64 i = K 83 (12 + i) := by
  rcases (show i = 0 ∨ i = 1 ∨ i = 2 ∨ i = 3 by omega) with e | e | e | e <;> subst e <;> simp [bckM, up_app]
theorem Rel_image (h : Rel M) : Rel (imgM (up (takeC M 7 1) 0 8 1)) := by
  obtain ⟨hF, ⟨a1, a2, a3, a4, a5⟩, ⟨w1, w2, w3, w4⟩, hT, hX, hK, hH, hN, h9⟩ := id h
  have k0 : ∀ c, c ≠ 0 → ¬ (7 ≤ c ∧ c ≤ 12) → up (takeC M 7 1) 0 8 1 c = M c := fun c a b => by rw [up_ne a, tk_o b]
  have e : ∀ c, c ≠ 0 → ¬ (7 ≤ c ∧ c ≤ 12) → c ≠ 59 → c ≠ 83 → imgM (up (takeC M 7 1) 0 8 1) c = M c := fun c a b d f => by rw [img_o d f, k0 c a b]
  have e59 : ∀ k, (k < 53 ∨ 56 < k) → imgM (up (takeC M 7 1) 0 8 1) 59 k = M 59 k := fun k hk => by
    rw [img_59, if_neg (by omega), if_neg (by omega), if_neg (by omega), if_neg (by omega), k0 59 (by decide) (by decide)]
  have e53 : imgM (up (takeC M 7 1) 0 8 1) 59 53 = M 59 12 := by rw [img_59, if_pos rfl, k0 59 (by decide) (by decide)]
  have e54 : imgM (up (takeC M 7 1) 0 8 1) 59 54 = M 59 13 := by rw [img_59, if_neg (by decide), if_pos rfl, k0 59 (by decide) (by decide)]
  have e55 : imgM (up (takeC M 7 1) 0 8 1) 59 55 = M 59 14 := by rw [img_59, if_neg (by decide), if_neg (by decide), if_pos rfl, k0 59 (by decide) (by decide)]
  have e56 : imgM (up (takeC M 7 1) 0 8 1) 59 56 = M 59 4 := by rw [img_59, if_neg (by decide), if_neg (by decide), if_neg (by decide), if_pos rfl, k0 59 (by decide) (by decide)]
  have lo : ∀ c, c ≠ 59 → c ≠ 83 → imgM (up (takeC M 7 1) 0 8 1) c = up (takeC M 7 1) 0 8 1 c := fun c a b => img_o a b
  have g7 : ∀ k, 5 ≤ k → k ≤ 8 → imgM (up (takeC M 7 1) 0 8 1) 7 k = M 1 k := fun k a b => by
    rw [lo 7 (by decide) (by decide), up_ne (by decide), tk_f ⟨a, b⟩]
  have ga : ∀ i, 0 ≤ i → i < 4 → imgM (up (takeC M 7 1) 0 8 1) 8 i = M 2 i ∧ imgM (up (takeC M 7 1) 0 8 1) 9 i = M 3 i ∧ imgM (up (takeC M 7 1) 0 8 1) 10 i = M 4 i ∧ imgM (up (takeC M 7 1) 0 8 1) 11 i = M 5 i ∧ imgM (up (takeC M 7 1) 0 8 1) 12 i = M 6 i := fun i a b => by
    have := tk_a (M := M) (c := 7) (b := 1) (by omega) ⟨a, b⟩
    rw [lo 8 (by decide) (by decide), lo 9 (by decide) (by decide), lo 10 (by decide) (by decide), lo 11 (by decide) (by decide), lo 12 (by decide) (by decide), up_ne (by decide), up_ne (by decide), up_ne (by decide), up_ne (by decide), up_ne (by decide)]
    exact this
  have gb : ∀ i, 0 ≤ i → i < 4 → imgM (up (takeC M 7 1) 0 8 1) 83 i = M 65 i ∧ imgM (up (takeC M 7 1) 0 8 1) 83 (4 + i) = M 66 i ∧ imgM (up (takeC M 7 1) 0 8 1) 83 (8 + i) = M 67 i ∧ imgM (up (takeC M 7 1) 0 8 1) 83 (12 + i) = M 64 i := fun i a b => by
    have := img_83 (K := up (takeC M 7 1) 0 8 1) ⟨a, b⟩
    rw [k0 65 (by decide) (by decide), k0 66 (by decide) (by decide), k0 67 (by decide) (by decide), k0 64 (by decide) (by decide)] at this
    exact this
  have g0 : imgM (up (takeC M 7 1) 0 8 1) 0 8 = 1 := by rw [lo 0 (by decide) (by decide), up_app, if_pos ⟨rfl, rfl⟩]
  generalize imgM (up (takeC M 7 1) 0 8 1) = N at *
  have q1 := e 1 (by decide) (by decide) (by decide) (by decide)
  have q19 := e 19 (by decide) (by decide) (by decide) (by decide)
  have hWA : WfA (M 59 12) (M 2) (M 3) (M 4) (M 5) (M 6) := WfA_cg w4 a1 a2 a3 a4 a5
  refine ⟨by unfold RF; rw [q1, q19, e59 12 (by omega), e59 13 (by omega), e59 14 (by omega), e59 4 (by omega), e59 6 (by omega), e59 3 (by omega)]; exact hF, ?_, WfM.eq ⟨w1, w2, w3, w4⟩ (fun k _ _ => e59 k (by omega)) (fun c _ _ => e c (by omega) (by omega) (by omega) (by omega)), hT.eq (e59 6 (by omega)) (e 62 (by decide) (by decide) (by decide) (by decide)) (e 20 (by decide) (by decide) (by decide) (by decide)), hX.eq (e59 3 (by omega)) (e59 4 (by omega)) (e 60 (by decide) (by decide) (by decide) (by decide)) (e 61 (by decide) (by decide) (by decide) (by decide)) (fun c _ _ => e c (by omega) (by omega) (by omega) (by omega)), ?_, hH.eq (fun c _ => e c (by omega) (by omega) (by omega) (by omega)), RN_same h (fun c _ => e c (by omega) (by omega) (by omega) (by omega)) (e59 4 (by omega)), h9.eq (fun c _ => e c (by omega) (by omega) (by omega) (by omega))⟩
  · unfold RA
    rw [e59 12 (by omega), e 2 (by decide) (by decide) (by decide) (by decide), e 3 (by decide) (by decide) (by decide) (by decide), e 4 (by decide) (by decide) (by decide) (by decide), e 5 (by decide) (by decide) (by decide) (by decide), e 6 (by decide) (by decide) (by decide) (by decide), e 63 (by decide) (by decide) (by decide) (by decide), e 64 (by decide) (by decide) (by decide) (by decide), e 65 (by decide) (by decide) (by decide) (by decide), e 66 (by decide) (by decide) (by decide) (by decide), e 67 (by decide) (by decide) (by decide) (by decide)]
    exact ⟨a1, a2, a3, a4, a5⟩
  · refine Or.inr ⟨by rw [g0]; decide, by rw [e53, e59 12 (by omega)]; omega, by rw [e54]; exact w2, by rw [e55]; exact w3, by rw [e56, e59 3 (by omega)]; exact hX.2.1, ?_, ?_, ?_, ?_, ?_, ?_, ?_⟩
    · rw [g7 5 (by decide) (by decide), g7 6 (by decide) (by decide), g7 7 (by decide) (by decide), g7 8 (by decide) (by decide), e53, e54, e55, e56]
      exact ⟨hF.1, hF.2.1, hF.2.2.1, hF.2.2.2.1⟩
    · rw [e53]; exact fun i a b => by rw [(ga i a (by omega)).1, e 63 (by decide) (by decide) (by decide) (by decide)]; exact a1 i a b
    · rw [e53]; exact fun i a b => by show N 9 i = N 83 (12 + i); rw [(ga i a (by omega)).2.1, (gb i a (by omega)).2.2.2]; exact a2 i a b
    · rw [e53]; exact fun i a b => by rw [(ga i a (by omega)).2.2.1, (gb i a (by omega)).1]; exact a3 i a b
    · rw [e53]; exact fun i a b => by show N 11 i = N 83 (4 + i); rw [(ga i a (by omega)).2.2.2.1, (gb i a (by omega)).2.1]; exact a4 i a b
    · rw [e53]; exact fun i a b => by show N 12 i = N 83 (8 + i); rw [(ga i a (by omega)).2.2.2.2, (gb i a (by omega)).2.2.1]; exact a5 i a b
    · rw [e53]
      intro i a b
      obtain ⟨z1, z2, z3, z4, z5⟩ := ga i a (by omega)
      rw [z1, z2, z3, z4, z5]
      exact hWA i a b
theorem Rel_back (h : Rel M) (h0 : M 0 8 ≠ 0) : Rel (bckM (up (takeC M 1 7) 39 11 (-1))) := by
  obtain ⟨hF, ⟨a1, a2, a3, a4, a5⟩, ⟨w1, w2, w3, w4⟩, hT, hX, hK, hH, hN, h9⟩ := id h
  have hR := hK.resolve_left (fun z => h0 z.1)
  obtain ⟨-, r1, r2, r3, r4, ⟨r5, r6, r7, r8⟩, s1, s2, s3, s4, s5, s6⟩ := hR
  have k0 : ∀ c, c ≠ 39 → ¬ (1 ≤ c ∧ c ≤ 6) → up (takeC M 1 7) 39 11 (-1) c = M c := fun c a b => by rw [up_ne a, tk_o b]
  have e : ∀ c, c ≠ 39 → ¬ (1 ≤ c ∧ c ≤ 6) → c ≠ 59 → ¬ (64 ≤ c ∧ c ≤ 67) → bckM (up (takeC M 1 7) 39 11 (-1)) c = M c := fun c a b d f => by rw [bck_o d f, k0 c a b]
  have e59 : ∀ k, k ≠ 4 → ¬ (12 ≤ k ∧ k ≤ 14) → bckM (up (takeC M 1 7) 39 11 (-1)) 59 k = M 59 k := fun k hk hj => by
    rw [bck_59, if_neg (by omega), if_neg (by omega), if_neg (by omega), if_neg (by omega), k0 59 (by decide) (by decide)]
  have e12 : bckM (up (takeC M 1 7) 39 11 (-1)) 59 12 = M 59 53 := by rw [bck_59, if_pos rfl, k0 59 (by decide) (by decide)]
  have e13 : bckM (up (takeC M 1 7) 39 11 (-1)) 59 13 = M 59 54 := by rw [bck_59, if_neg (by decide), if_pos rfl, k0 59 (by decide) (by decide)]
  have e14 : bckM (up (takeC M 1 7) 39 11 (-1)) 59 14 = M 59 55 := by rw [bck_59, if_neg (by decide), if_neg (by decide), if_pos rfl, k0 59 (by decide) (by decide)]
  have e4 : bckM (up (takeC M 1 7) 39 11 (-1)) 59 4 = M 59 56 := by rw [bck_59, if_neg (by decide), if_neg (by decide), if_neg (by decide), if_pos rfl, k0 59 (by decide) (by decide)]
  have lo : ∀ c, c < 59 → bckM (up (takeC M 1 7) 39 11 (-1)) c = up (takeC M 1 7) 39 11 (-1) c := fun c a => bck_o (by omega) (by omega)
  have g1 : ∀ k, 5 ≤ k → k ≤ 8 → bckM (up (takeC M 1 7) 39 11 (-1)) 1 k = M 7 k := fun k a b => by
    rw [lo 1 (by decide), up_ne (by decide), tk_f ⟨a, b⟩]
  have ga : ∀ i, 0 ≤ i → i < 4 → bckM (up (takeC M 1 7) 39 11 (-1)) 2 i = M 8 i ∧ bckM (up (takeC M 1 7) 39 11 (-1)) 3 i = M 9 i ∧ bckM (up (takeC M 1 7) 39 11 (-1)) 4 i = M 10 i ∧ bckM (up (takeC M 1 7) 39 11 (-1)) 5 i = M 11 i ∧ bckM (up (takeC M 1 7) 39 11 (-1)) 6 i = M 12 i := fun i a b => by
    have := tk_a (M := M) (c := 1) (b := 7) (by omega) ⟨a, b⟩
    rw [lo 2 (by decide), lo 3 (by decide), lo 4 (by decide), lo 5 (by decide), lo 6 (by decide), up_ne (by decide), up_ne (by decide), up_ne (by decide), up_ne (by decide), up_ne (by decide)]
    exact this
  have gb : ∀ i, 0 ≤ i → i < 4 → bckM (up (takeC M 1 7) 39 11 (-1)) 65 i = M 83 i ∧ bckM (up (takeC M 1 7) 39 11 (-1)) 66 i = M 83 (4 + i) ∧ bckM (up (takeC M 1 7) 39 11 (-1)) 67 i = M 83 (8 + i) ∧ bckM (up (takeC M 1 7) 39 11 (-1)) 64 i = M 83 (12 + i) := fun i a b => by
    have := bck_a (K := up (takeC M 1 7) 39 11 (-1)) ⟨a, b⟩
    rw [k0 83 (by decide) (by decide)] at this
    exact this
  have n11 : bckM (up (takeC M 1 7) 39 11 (-1)) 39 11 = -1 := by rw [lo 39 (by decide), up_app, if_pos ⟨rfl, rfl⟩]
  have n12 : bckM (up (takeC M 1 7) 39 11 (-1)) 39 12 = M 39 12 := by rw [lo 39 (by decide), up_app, if_neg (fun z => absurd z.2 (by decide)), tk_o (by decide)]
  generalize bckM (up (takeC M 1 7) 39 11 (-1)) = N at *
  have q19 := e 19 (by decide) (by decide) (by decide) (by decide)
  have g3 := e59 3 (by decide) (by decide)
  have n63 := e 63 (by decide) (by decide) (by decide) (by decide)
  obtain ⟨x1, x2, x3⟩ := hX
  have hX2 : RX N := ⟨by rw [g3]; exact x1, by rw [g3, e4]; exact r4, fun t a b => by
    rw [g3] at b
    obtain ⟨B, n, p, q⟩ := x3 t a b
    exact ⟨B, n, mTx_eq p (e 60 (by decide) (by decide) (by decide) (by decide)) (e 61 (by decide) (by decide) (by decide) (by decide)), fun k k0 k1 => TXs_congr (by omega) (fun c _ _ => e c (by omega) (by omega) (by omega) (by omega)) (q k k0 k1)⟩⟩
  have A1 : eqn (M 59 53) (N 2) (N 63) := fun i a b => by rw [(ga i a (by omega)).1, n63]; exact s1 i a b
  have A2 : eqn (M 59 53) (N 3) (N 64) := fun i a b => by rw [(ga i a (by omega)).2.1, (gb i a (by omega)).2.2.2]; exact s2 i a b
  have A3 : eqn (M 59 53) (N 4) (N 65) := fun i a b => by rw [(ga i a (by omega)).2.2.1, (gb i a (by omega)).1]; exact s3 i a b
  have A4 : eqn (M 59 53) (N 5) (N 66) := fun i a b => by rw [(ga i a (by omega)).2.2.2.1, (gb i a (by omega)).2.1]; exact s4 i a b
  have A5 : eqn (M 59 53) (N 6) (N 67) := fun i a b => by rw [(ga i a (by omega)).2.2.2.2, (gb i a (by omega)).2.2.1]; exact s5 i a b
  refine ⟨⟨by rw [g1 5 (by decide) (by decide), e12]; exact r5, by rw [g1 6 (by decide) (by decide), e13]; exact r6, by rw [g1 7 (by decide) (by decide), e14]; exact r7, by rw [g1 8 (by decide) (by decide), e4]; exact r8, by rw [q19, e59 6 (by decide) (by decide)]; exact hF.2.2.2.2.1, by rw [q19, g3]; exact hF.2.2.2.2.2⟩, by unfold RA; rw [e12]; exact ⟨A1, A2, A3, A4, A5⟩, ⟨by rw [e12]; omega, by rw [e13]; exact r2, by rw [e14]; exact r3, ?_⟩, hT.eq (e59 6 (by decide) (by decide)) (e 62 (by decide) (by decide) (by decide) (by decide)) (e 20 (by decide) (by decide) (by decide) (by decide)), hX2, ?_, hH.eq (fun c _ => e c (by omega) (by omega) (by omega) (by omega)), RN_fgt hX2 (by rw [n12]; exact KN01 h) n11, h9.eq (fun c _ => e c (by omega) (by omega) (by omega) (by omega))⟩
  · rw [e12]
    intro i a b
    have q := s6 i a b
    obtain ⟨z1, z2, z3, z4, z5⟩ := ga i a (by omega)
    rw [← A1 i a b, ← A2 i a b, ← A3 i a b, ← A4 i a b, ← A5 i a b, z1, z2, z3, z4, z5]
    exact q
  · have k53 := e59 53 (by decide) (by decide)
    have k54 := e59 54 (by decide) (by decide)
    have k55 := e59 55 (by decide) (by decide)
    have k56 := e59 56 (by decide) (by decide)
    unfold RK
    rw [k53, k54, k55, k56, g3, e12, n63, e 0 (by decide) (by decide) (by decide) (by decide), e 7 (by decide) (by decide) (by decide) (by decide), e 8 (by decide) (by decide) (by decide) (by decide), e 9 (by decide) (by decide) (by decide) (by decide), e 10 (by decide) (by decide) (by decide) (by decide), e 11 (by decide) (by decide) (by decide) (by decide), e 12 (by decide) (by decide) (by decide) (by decide), e 83 (by decide) (by decide) (by decide) (by decide)]
    exact Or.inr ⟨h0, ⟨r1.1, Int.le_refl _⟩, r2, r3, r4, ⟨r5, r6, r7, r8⟩, s1, s2, s3, s4, s5, s6⟩
end Im
theorem p_image {X : fX} {M K : fM} {d : Nat} {r : Int}  (h : Rel M)  (hc : K = up (takeC M 7 1) 0 8 1 ∧ r = M 1 5) : fC X d mX7_image [.ref (xa X 59)] K (QI fun r1 K1 => r1 = r ∧ Rel K1) := by
  obtain ⟨e1, e2⟩ := hc
  refine fC.mono t_X7_image (fun b2 K1 _ q => ?_)
  have e59 : K 59 = M 59 := by rw [e1, up_ne (by decide), tk_o (by decide)]
  refine ⟨by rw [q.2, e2, e59, h.1.1], ?_⟩
  rw [q.1, e1]
  exact Rel_image h
theorem p_back {X : fX} {M K : fM} {d : Nat} {r : Int}  (h : Rel M)  (hc : (M 0 8 = 0 ∧ r = -3 ∧ K = M) ∨ (M 0 8 ≠ 0 ∧ r = M 7 5 ∧ K = fgt (takeC M 1 7))) : fC X d mX7_back [.ref (xa X 59)] K (QI fun r1 K1 => r1 = r ∧ Rel K1) := by
  rcases hc with ⟨c1, e2, e3⟩ | ⟨c1, e2, e3⟩
  · rw [e2, e3]
    have hk : M 59 53 = -1 := by
      rcases h.2.2.2.2.2.1 with z | z
      · exact z.2
      · exact absurd c1 z.1
    refine fC.mono t_X7_back (fun b2 K1 _ q => ?_)
    rcases q with ⟨_, q2, q3⟩ | ⟨z, _⟩
    · exact ⟨q2, by rw [q3]; exact h⟩
    · exact absurd hk z
  · unfold fgt at e3
    have hk := (h.2.2.2.2.2.1.resolve_left (fun z => c1 z.1)).2
    have e59 : K 59 = M 59 := by rw [e3, up_ne (by decide), tk_o (by decide)]
    refine fC.mono t_X7_back (fun b2 K1 _ q => ?_)
    rw [e59] at q
    rcases q with ⟨z, _⟩ | ⟨_, q2, q3⟩
    · have := hk.1; omega
    · refine ⟨by rw [q2, e2]; exact hk.2.2.2.2.1.1.symm, ?_⟩
      rw [q3, e3]
      exact Rel_back h c1
