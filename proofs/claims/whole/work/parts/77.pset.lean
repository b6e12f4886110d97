/-! pairs: set, burn -/
section Sb
variable {M N : fM}
/-- the wicks' numbers, parts, ends, burnt change; or the damp, the moment -/
theorem Rel_arr (h : Rel M) (e : ∀ c, c ≠ 1 → ¬ (3 ≤ c ∧ c ≤ 6) → c ≠ 39 → c ≠ 59 → ¬ (64 ≤ c ∧ c ≤ 67) → N c = M c) (e1 : ∀ k, k ≠ 6 → k ≠ 7 → N 1 k = M 1 k) (e59 : ∀ k, k ≠ 13 → k ≠ 14 → N 59 k = M 59 k) (hd : N 1 6 = N 59 13 ∧ 0 ≤ N 59 13 ∧ N 59 13 ≤ 9) (hm : N 1 7 = N 59 14 ∧ 0 ≤ N 59 14 ∧ N 59 14 ≤ 9999) (h11 : N 39 11 = -1) (h12 : N 39 12 = M 39 12) (hA : ∀ i, 0 ≤ i → i < M 59 12 → (N 3 i = N 64 i ∧ N 4 i = N 65 i ∧ N 5 i = N 66 i ∧ N 6 i = N 67 i) ∧ (0 ≤ N 64 i ∧ N 64 i ≤ 9) ∧ (0 ≤ N 65 i ∧ N 65 i ≤ 99) ∧ (0 ≤ N 66 i ∧ N 66 i ≤ 2) ∧ (0 ≤ N 67 i ∧ N 67 i ≤ 999) ∧ (N 65 i = 0 → N 66 i = 0)) : Rel N := by
  have hx := h.2.2.2.2.1.2.1
  have e12 := e59 12 (by decide) (by decide)
  have e4 := e59 4 (by decide) (by decide)
  refine Rel_chg h (fun c hc => e c (by omega) (by omega) (by omega) (by omega) (by omega)) (by rw [e 0 (by decide) (by decide) (by decide) (by decide) (by decide)]) (by rw [e 19 (by decide) (by decide) (by decide) (by decide) (by decide)]) (by rw [e 19 (by decide) (by decide) (by decide) (by decide) (by decide)]) (fun j hj => e59 j (by omega) (by omega)) (by rw [e4]; exact hx) (by rw [e12]; exact Int.le_refl _) (fun i _ _ => by rw [e 63 (by decide) (by decide) (by decide) (by decide) (by decide)]) ⟨by rw [e12, e1 5 (by decide) (by decide)]; exact h.1.1, hd.1, hm.1, by rw [e1 8 (by decide) (by decide), e4]; exact h.1.2.2.2.1⟩ ?_ ?_ h11 h12
  · unfold RA
    rw [e12, e 2 (by decide) (by decide) (by decide) (by decide) (by decide), e 63 (by decide) (by decide) (by decide) (by decide) (by decide)]
    exact ⟨h.2.1.1, fun i a b => (hA i a b).1.1, fun i a b => (hA i a b).1.2.1, fun i a b => (hA i a b).1.2.2.1, fun i a b => (hA i a b).1.2.2.2⟩
  · refine ⟨by rw [e12]; exact h.2.2.1.1, hd.2, hm.2, ?_⟩
    rw [e12, e 63 (by decide) (by decide) (by decide) (by decide) (by decide)]
    intro i a b
    have q := hA i a b
    exact ⟨(h.2.2.1.2.2.2 i a b).1, q.2⟩
abbrev sN4 (M : fM) (q f v : Int) : fM := setMm (setK M q f v) q f v
theorem Rel_set4 {q f v : Int} (h : Rel M) (hq : q = 4) (hv : 0 ≤ v ∧ v ≤ 9) : Rel (sN4 M q f v) := by
  subst hq
  have es : sN4 M 4 f v = up (up (up M 39 11 (-1)) 1 6 v) 59 13 v := by simp [sN4, setMm, setK]
  rw [es]
  obtain ⟨w1, w2, w3, w4⟩ := h.2.2.1
  refine Rel_arr h (fun c a b c1 d _ => by rw [up_ne d, up_ne a, up_ne c1]) (fun k hk _ => by rw [up_ne (by decide), up_app, if_neg (fun z => hk z.2), up_ne (by decide)]) (fun k hk _ => by rw [up_app, if_neg (fun z => hk z.2), up_ne (by decide), up_ne (by decide)]) ?_ ?_ (by simp [up_app]) (by simp [up_app]) (fun i a b => ?_)
  · simp [up_app]; exact hv
  · simp [up_app]; exact ⟨h.1.2.2.1, w3⟩
  · have q := w4 i a b
    simp only [up_ne (show (3 : Nat) ≠ 59 by decide), up_ne (show (3 : Nat) ≠ 1 by decide), up_ne (show (3 : Nat) ≠ 39 by decide), up_ne (show (4 : Nat) ≠ 59 by decide), up_ne (show (4 : Nat) ≠ 1 by decide), up_ne (show (4 : Nat) ≠ 39 by decide), up_ne (show (5 : Nat) ≠ 59 by decide), up_ne (show (5 : Nat) ≠ 1 by decide), up_ne (show (5 : Nat) ≠ 39 by decide), up_ne (show (6 : Nat) ≠ 59 by decide), up_ne (show (6 : Nat) ≠ 1 by decide), up_ne (show (6 : Nat) ≠ 39 by decide), up_ne (show (64 : Nat) ≠ 59 by decide), up_ne (show (64 : Nat) ≠ 1 by decide), up_ne (show (64 : Nat) ≠ 39 by decide), up_ne (show (65 : Nat) ≠ 59 by decide), up_ne (show (65 : Nat) ≠ 1 by decide), up_ne (show (65 : Nat) ≠ 39 by decide), up_ne (show (66 : Nat) ≠ 59 by decide), up_ne (show (66 : Nat) ≠ 1 by decide), up_ne (show (66 : Nat) ≠ 39 by decide), up_ne (show (67 : Nat) ≠ 59 by decide), up_ne (show (67 : Nat) ≠ 1 by decide), up_ne (show (67 : Nat) ≠ 39 by decide)]
    exact ⟨⟨h.2.1.2.1 i a b, h.2.1.2.2.1 i a b, h.2.1.2.2.2.1 i a b, h.2.1.2.2.2.2 i a b⟩, q.2⟩
theorem Rel_set5 {q f v : Int} (h : Rel M) (hq : q = 5) (hv : 0 ≤ v ∧ v ≤ 9999) : Rel (sN4 M q f v) := by
  subst hq
  have es : sN4 M 5 f v = up (up (up M 39 11 (-1)) 1 7 v) 59 14 v := by simp [sN4, setMm, setK]
  rw [es]
  obtain ⟨w1, w2, w3, w4⟩ := h.2.2.1
  refine Rel_arr h (fun c a b c1 d _ => by rw [up_ne d, up_ne a, up_ne c1]) (fun k _ hk => by rw [up_ne (by decide), up_app, if_neg (fun z => hk z.2), up_ne (by decide)]) (fun k _ hk => by rw [up_app, if_neg (fun z => hk z.2), up_ne (by decide), up_ne (by decide)]) ?_ ?_ (by simp [up_app]) (by simp [up_app]) (fun i a b => ?_)
  · simp [up_app]; exact ⟨h.1.2.1, w2⟩
  · simp [up_app]; exact hv
  · have q := w4 i a b
    simp only [up_app, Nat.reduceEqDiff, false_and, if_false]
    exact ⟨⟨h.2.1.2.1 i a b, h.2.1.2.2.1 i a b, h.2.1.2.2.2.1 i a b, h.2.1.2.2.2.2 i a b⟩, q.2⟩
theorem set_v {q f v : Int} (hq : q = 0 ∨ q = 1 ∨ q = 2 ∨ q = 3) (i : Int) : sN4 M q f v 3 i = (if q = 3 ∧ i = f then v else M 3 i) ∧ sN4 M q f v 4 i = (if q = 0 ∧ i = f then v else M 4 i) ∧ sN4 M q f v 5 i = (if i = f ∧ (if q = 0 then v else M 4 f) = 0 then 0 else if q = 1 ∧ i = f then v else M 5 i) ∧ sN4 M q f v 6 i = (if q = 2 ∧ i = f then v else M 6 i) ∧ sN4 M q f v 64 i = (if q = 3 ∧ i = f then v else M 64 i) ∧ sN4 M q f v 65 i = (if q = 0 ∧ i = f then v else M 65 i) ∧ sN4 M q f v 66 i = (if q = 0 ∧ i = f then (if v = 0 then 0 else M 66 f) else if q = 1 ∧ i = f then v else M 66 i) ∧ sN4 M q f v 67 i = (if q = 2 ∧ i = f then v else M 67 i) := by
  rcases hq with rfl | rfl | rfl | rfl
  · by_cases hz : v = 0 <;> simp [sN4, setMm, setK, chgM, chgA, up_app, hz]
  · by_cases hz : M 4 f = 0 <;> simp [sN4, setMm, setK, chgM, chgA, up_app, hz]
  · by_cases hz : M 4 f = 0 <;> simp [sN4, setMm, setK, chgM, chgA, up_app, hz]
  · by_cases hz : M 4 f = 0 <;> simp [sN4, setMm, setK, chgM, chgA, up_app, hz]
theorem set_o {q f v : Int} (hq : q = 0 ∨ q = 1 ∨ q = 2 ∨ q = 3) {c : Nat} (b : ¬ (3 ≤ c ∧ c ≤ 6)) (d : ¬ (64 ≤ c ∧ c ≤ 67)) : sN4 M q f v c = up M 39 11 (-1) c := by
  funext i
  rcases hq with rfl | rfl | rfl | rfl
  · by_cases hz : v = 0 <;> simp [sN4, setMm, setK, chgM, chgA, up_app, hz] <;> (repeat' split) <;> omega
  · by_cases hz : M 4 f = 0 <;> simp [sN4, setMm, setK, chgM, chgA, up_app, hz] <;> (repeat' split) <;> omega
  · by_cases hz : M 4 f = 0 <;> simp [sN4, setMm, setK, chgM, chgA, up_app, hz] <;> (repeat' split) <;> omega
  · by_cases hz : M 4 f = 0 <;> simp [sN4, setMm, setK, chgM, chgA, up_app, hz] <;> (repeat' split) <;> omega
end Sb
