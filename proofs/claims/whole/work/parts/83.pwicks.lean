/-! wicks: class's run and model's run, side by side -/
theorem up_cg {M N : fM} {c c' : Nat} {i v : Int} (h : N c = M c) : up N c' i v c = up M c' i v c := by
  funext j
  unfold up
  rw [h]
def mrg (A B : fM) : fM := fun c => if c < 59 then A c else B c
theorem mrg_lo {A B : fM} {c : Nat} (h : c < 59) : mrg A B c = A c := if_pos h
theorem mrg_hi {A B : fM} {c : Nat} (h : ¬ c < 59) : mrg A B c = B c := if_neg h
theorem mrg_wN {A B : fM} {k n p : Int} : mrg (addK A k n p) (wickM B k n p) = wN (mrg A B) k n p := by
  funext c
  by_cases h : c < 59
  · rw [mrg_lo h]
    unfold wN wickM
    rw [up_ne (by omega), up_ne (by omega), up_ne (by omega), up_ne (by omega), up_ne (by omega), up_ne (by omega)]
    unfold addK fgt
    rw [show mrg A B 1 = A 1 from mrg_lo (by decide)]
    exact (up_cg (up_cg (up_cg (up_cg (up_cg (up_cg (up_cg (mrg_lo h)))))))).symm
  · rw [mrg_hi h]
    unfold wN wickM
    have e : ∀ q, ¬ q < 59 → addK (mrg A B) k n p q = B q := fun q hq => by rw [addK_ge (by omega), mrg_hi hq]
    rw [e 59 (by decide)]
    exact (up_cg (up_cg (up_cg (up_cg (up_cg (up_cg (e c h))))))).symm
theorem mrg_step {A B : fM} {k n p : Int} (h : Rel (mrg A B)) : Rel (mrg (wkK A k n p) (wkS B k n p)) := by
  have e1 : A 1 5 = B 59 12 := by
    have := h.1.1
    rw [mrg_lo (by decide), mrg_hi (by decide)] at this
    exact this
  unfold wkK wkS
  rw [e1]
  by_cases hc : wickOk k n p ∧ B 59 12 < 4
  · rw [if_pos hc, if_pos hc, mrg_wN]
    exact Rel_wick h hc.1 (by rw [mrg_hi (by decide)]; exact hc.2)
  · rw [if_neg hc, if_neg hc]; exact h
theorem mrg_it {I J : Int → Int} {a b n : Int} {M K : fM} (h : Rel M) (hK : ∀ c, ¬ c < 59 → K c = M c) (hI : ∀ k, 0 ≤ k → k < n → I (a + k * 3) = J (b + 3 * k) ∧ I (a + k * 3 + 1) = J (b + 3 * k + 1) ∧ I (a + k * 3 + 2) = J (b + 3 * k + 2)) : ∀ k : Nat, (k : Int) ≤ n → Rel (mrg (itMN (wkKF I a) M k) (itMN (wkF J b) K k))
  | 0, _ => by
    have e : mrg M K = M := by
      funext c
      by_cases hc : c < 59
      · exact mrg_lo hc
      · rw [mrg_hi hc]; exact hK c hc
    show Rel (mrg M K)
    rw [e]; exact h
  | k + 1, hk => by
    obtain ⟨i1, i2, i3⟩ := hI k (by omega) (by omega)
    show Rel (mrg (wkK (itMN (wkKF I a) M k) (I (a + (k : Int) * 3)) (I (a + (k : Int) * 3 + 1)) (I (a + (k : Int) * 3 + 2))) (wkS (itMN (wkF J b) K k) (J (b + 3 * (k : Int))) (J (b + 3 * (k : Int) + 1)) (J (b + 3 * (k : Int) + 2))))
    rw [i1, i2, i3]
    exact mrg_step (mrg_it h hK hI k (by omega))
theorem wkS_lo {N : fM} {k n p : Int} {c : Nat} (hc : c < 59) : wkS N k n p c = N c := by
  unfold wkS
  split
  · unfold wickM
    rw [up_ne (by omega), up_ne (by omega), up_ne (by omega), up_ne (by omega), up_ne (by omega), up_ne (by omega)]
  · rfl
theorem it_lo {J : Int → Int} {b : Int} {K : fM} {c : Nat} (hc : c < 59) : ∀ k : Nat, itMN (wkF J b) K k c = K c
  | 0 => rfl
  | k + 1 => by
    show wkS _ _ _ _ c = K c
    rw [wkS_lo hc, it_lo hc k]
theorem mrg_end {A B : fM} (h : ∀ c, c < 59 → B c = A c) : mrg A B = B := by
  funext c
  by_cases hc : c < 59
  · rw [mrg_lo hc, h c hc]
  · exact mrg_hi hc
