/-! READING, purely: bytes, tokens -/
abbrev bSp (b : Int) : Prop := b = 32 ∨ b = 10
abbrev bLt (b : Int) : Prop := 97 ≤ b ∧ b ≤ 122
abbrev bDg (b : Int) : Prop := 48 ≤ b ∧ b ≤ 57
abbrev bSg (b : Int) : Prop := b = 40 ∨ b = 41 ∨ b = 59 ∨ b = 43 ∨ b = 45 ∨ b = 42 ∨ b = 60 ∨ b = 61
/-- q: 0 blanks, 1 letters, else digits -/
abbrev bQ (q b : Int) : Prop := if q = 0 then bSp b else if q = 1 then bLt b else bDg b
def bhF (q : Int) (B : Int → Int) : Nat → Int → Int
  | 0, i => i
  | k + 1, i => if bQ q (B i) then bhF q B k (i + 1) else i
def bhd (q : Int) (B : Int → Int) (n i : Int) : Int := bhF q B (n - i).toNat i
theorem bhd_step {q : Int} {B : Int → Int} {n i : Int} (h : i < n) (hq : bQ q (B i)) : bhd q B n i = bhd q B n (i + 1) := by
  unfold bhd
  rw [show (n - i).toNat = (n - (i + 1)).toNat + 1 by omega]
  exact if_pos hq
theorem bhd_stop {q : Int} {B : Int → Int} {n i : Int} (hq : ¬ bQ q (B i)) : bhd q B n i = i := by
  unfold bhd
  cases h : (n - i).toNat with
  | zero => rfl
  | succ k => exact if_neg hq
theorem bhd_end {q : Int} {B : Int → Int} {n i : Int} (h : n ≤ i) : bhd q B n i = i := by
  unfold bhd
  rw [show (n - i).toNat = 0 by omega]; rfl
theorem bhF_rg {q : Int} {B : Int → Int} : ∀ (k : Nat) (i : Int), i ≤ bhF q B k i ∧ bhF q B k i ≤ i + k ∧ (∀ j, i ≤ j → j < bhF q B k i → bQ q (B j)) ∧ (bhF q B k i < i + k → ¬ bQ q (B (bhF q B k i)))
  | 0, i => ⟨Int.le_refl _, by show i ≤ i + _; omega, fun j h1 h2 => by have h3 : j < i := h2; omega, fun h => by have h3 : i < i + ((0 : Nat) : Int) := h; omega⟩
  | k + 1, i => by
    by_cases hq : bQ q (B i)
    · have e : bhF q B (k + 1) i = bhF q B k (i + 1) := if_pos hq
      obtain ⟨h1, h2, h3, h4⟩ := bhF_rg (q := q) (B := B) k (i + 1)
      rw [e]
      refine ⟨by omega, by omega, fun j j1 j2 => ?_, fun h => h4 (by omega)⟩
      by_cases hj : j = i
      · rw [hj]; exact hq
      · exact h3 j (by omega) j2
    · have e : bhF q B (k + 1) i = i := if_neg hq
      rw [e]
      exact ⟨Int.le_refl _, by omega, fun j j1 j2 => by omega, fun _ => hq⟩
theorem bhd_rg {q : Int} {B : Int → Int} {n i : Int} (h : i ≤ n) : i ≤ bhd q B n i ∧ bhd q B n i ≤ n ∧ (∀ j, i ≤ j → j < bhd q B n i → bQ q (B j)) ∧ (bhd q B n i < n → ¬ bQ q (B (bhd q B n i))) := by
  obtain ⟨h1, h2, h3, h4⟩ := bhF_rg (q := q) (B := B) (n - i).toNat i
  exact ⟨h1, by unfold bhd; omega, h3, fun hh => h4 (by unfold bhd at hh; omega)⟩
abbrev wq0 (B : Int → Int) (a x : Int) : Prop := x - a = 5 ∧ B (a + 0) = 112 ∧ B (a + 1) = 97 ∧ B (a + 2) = 114 ∧ B (a + 3) = 116 ∧ B (a + 4) = 115
abbrev wq1 (B : Int → Int) (a x : Int) : Prop := x - a = 4 ∧ B (a + 0) = 100 ∧ B (a + 1) = 97 ∧ B (a + 2) = 109 ∧ B (a + 3) = 112
abbrev wq2 (B : Int → Int) (a x : Int) : Prop := x - a = 3 ∧ B (a + 0) = 108 ∧ B (a + 1) = 105 ∧ B (a + 2) = 116
abbrev wq3 (B : Int → Int) (a x : Int) : Prop := x - a = 5 ∧ B (a + 0) = 98 ∧ B (a + 1) = 117 ∧ B (a + 2) = 114 ∧ B (a + 3) = 110 ∧ B (a + 4) = 116
abbrev wq4 (B : Int → Int) (a x : Int) : Prop := x - a = 4 ∧ B (a + 0) = 119 ∧ B (a + 1) = 105 ∧ B (a + 2) = 99 ∧ B (a + 3) = 107
abbrev wq5 (B : Int → Int) (a x : Int) : Prop := x - a = 4 ∧ B (a + 0) = 115 ∧ B (a + 1) = 112 ∧ B (a + 2) = 97 ∧ B (a + 3) = 110
abbrev wq6 (B : Int → Int) (a x : Int) : Prop := x - a = 5 ∧ B (a + 0) = 99 ∧ B (a + 1) = 111 ∧ B (a + 2) = 115 ∧ B (a + 3) = 116 ∧ B (a + 4) = 115
abbrev wq7 (B : Int → Int) (a x : Int) : Prop := x - a = 5 ∧ B (a + 0) = 119 ∧ B (a + 1) = 111 ∧ B (a + 2) = 114 ∧ B (a + 3) = 116 ∧ B (a + 4) = 104
abbrev wq8 (B : Int → Int) (a x : Int) : Prop := x - a = 5 ∧ B (a + 0) = 100 ∧ B (a + 1) = 114 ∧ B (a + 2) = 105 ∧ B (a + 3) = 102 ∧ B (a + 4) = 116
abbrev wq9 (B : Int → Int) (a x : Int) : Prop := x - a = 2 ∧ B (a + 0) = 111 ∧ B (a + 1) = 114
abbrev wq10 (B : Int → Int) (a x : Int) : Prop := x - a = 3 ∧ B (a + 0) = 97 ∧ B (a + 1) = 110 ∧ B (a + 2) = 100
abbrev wq11 (B : Int → Int) (a x : Int) : Prop := x - a = 3 ∧ B (a + 0) = 110 ∧ B (a + 1) = 111 ∧ B (a + 2) = 116
def wcl (B : Int → Int) (a x : Int) : Int × Int := if wq0 B a x then (257, 0) else if wq1 B a x then (257, 1) else if wq2 B a x then (257, 2) else if wq3 B a x then (257, 3) else if wq4 B a x then (257, 4) else if wq5 B a x then (257, 5) else if wq6 B a x then (260, -1) else if wq7 B a x then (261, -1) else if wq8 B a x then (262, -1) else if wq9 B a x then (263, -1) else if wq10 B a x then (264, -1) else if wq11 B a x then (265, -1) else (259, -1)
theorem wclF_0 {B : Int → Int} {a x : Int} (h : wq0 B a x) : wcl B a x = (257, 0) := by
  unfold wcl
  rw [if_pos h]
theorem wclF_1 {B : Int → Int} {a x : Int} (h : wq1 B a x) : wcl B a x = (257, 1) := by
  unfold wcl
  rw [if_neg (by omega), if_pos h]
theorem wclF_2 {B : Int → Int} {a x : Int} (h : wq2 B a x) : wcl B a x = (257, 2) := by
  unfold wcl
  rw [if_neg (by omega), if_neg (by omega), if_pos h]
theorem wclF_3 {B : Int → Int} {a x : Int} (h : wq3 B a x) : wcl B a x = (257, 3) := by
  unfold wcl
  rw [if_neg (by omega), if_neg (by omega), if_neg (by omega), if_pos h]
theorem wclF_4 {B : Int → Int} {a x : Int} (h : wq4 B a x) : wcl B a x = (257, 4) := by
  unfold wcl
  rw [if_neg (by omega), if_neg (by omega), if_neg (by omega), if_neg (by omega), if_pos h]
theorem wclF_5 {B : Int → Int} {a x : Int} (h : wq5 B a x) : wcl B a x = (257, 5) := by
  unfold wcl
  rw [if_neg (by omega), if_neg (by omega), if_neg (by omega), if_neg (by omega), if_neg (by omega), if_pos h]
theorem wclF_6 {B : Int → Int} {a x : Int} (h : wq6 B a x) : wcl B a x = (260, -1) := by
  unfold wcl
  rw [if_neg (by omega), if_neg (by omega), if_neg (by omega), if_neg (by omega), if_neg (by omega), if_neg (by omega), if_pos h]
theorem wclF_7 {B : Int → Int} {a x : Int} (h : wq7 B a x) : wcl B a x = (261, -1) := by
  unfold wcl
  rw [if_neg (by omega), if_neg (by omega), if_neg (by omega), if_neg (by omega), if_neg (by omega), if_neg (by omega), if_neg (by omega), if_pos h]
theorem wclF_8 {B : Int → Int} {a x : Int} (h : wq8 B a x) : wcl B a x = (262, -1) := by
  unfold wcl
  rw [if_neg (by omega), if_neg (by omega), if_neg (by omega), if_neg (by omega), if_neg (by omega), if_neg (by omega), if_neg (by omega), if_neg (by omega), if_pos h]
theorem wclF_9 {B : Int → Int} {a x : Int} (h : wq9 B a x) : wcl B a x = (263, -1) := by
  unfold wcl
  rw [if_neg (by omega), if_neg (by omega), if_neg (by omega), if_neg (by omega), if_neg (by omega), if_neg (by omega), if_neg (by omega), if_neg (by omega), if_neg (by omega), if_pos h]
theorem wclF_10 {B : Int → Int} {a x : Int} (h : wq10 B a x) : wcl B a x = (264, -1) := by
  unfold wcl
  rw [if_neg (by omega), if_neg (by omega), if_neg (by omega), if_neg (by omega), if_neg (by omega), if_neg (by omega), if_neg (by omega), if_neg (by omega), if_neg (by omega), if_neg (by omega), if_pos h]
theorem wclF_11 {B : Int → Int} {a x : Int} (h : wq11 B a x) : wcl B a x = (265, -1) := by
  unfold wcl
  rw [if_neg (by omega), if_neg (by omega), if_neg (by omega), if_neg (by omega), if_neg (by omega), if_neg (by omega), if_neg (by omega), if_neg (by omega), if_neg (by omega), if_neg (by omega), if_neg (by omega), if_pos h]
theorem wclF_no {B : Int → Int} {a x : Int} (q0 : ¬ wq0 B a x) (q1 : ¬ wq1 B a x) (q2 : ¬ wq2 B a x) (q3 : ¬ wq3 B a x) (q4 : ¬ wq4 B a x) (q5 : ¬ wq5 B a x) (q6 : ¬ wq6 B a x) (q7 : ¬ wq7 B a x) (q8 : ¬ wq8 B a x) (q9 : ¬ wq9 B a x) (q10 : ¬ wq10 B a x) (q11 : ¬ wq11 B a x) : wcl B a x = (259, -1) := by
  unfold wcl
  rw [if_neg q0, if_neg q1, if_neg q2, if_neg q3, if_neg q4, if_neg q5, if_neg q6, if_neg q7, if_neg q8, if_neg q9, if_neg q10, if_neg q11]
theorem wcl_0 {B : Int → Int} {a x : Int} : wq0 B a x ↔ wcl B a x = (257, 0) := by
  refine ⟨wclF_0, fun h => ?_⟩
  by_cases q1 : wq1 B a x
  · rw [wclF_1 q1] at h; exact absurd h (by decide)
  by_cases q2 : wq2 B a x
  · rw [wclF_2 q2] at h; exact absurd h (by decide)
  by_cases q3 : wq3 B a x
  · rw [wclF_3 q3] at h; exact absurd h (by decide)
  by_cases q4 : wq4 B a x
  · rw [wclF_4 q4] at h; exact absurd h (by decide)
  by_cases q5 : wq5 B a x
  · rw [wclF_5 q5] at h; exact absurd h (by decide)
  by_cases q6 : wq6 B a x
  · rw [wclF_6 q6] at h; exact absurd h (by decide)
  by_cases q7 : wq7 B a x
  · rw [wclF_7 q7] at h; exact absurd h (by decide)
  by_cases q8 : wq8 B a x
  · rw [wclF_8 q8] at h; exact absurd h (by decide)
  by_cases q9 : wq9 B a x
  · rw [wclF_9 q9] at h; exact absurd h (by decide)
  by_cases q10 : wq10 B a x
  · rw [wclF_10 q10] at h; exact absurd h (by decide)
  by_cases q11 : wq11 B a x
  · rw [wclF_11 q11] at h; exact absurd h (by decide)
  by_cases q0 : wq0 B a x
  · exact q0
  · rw [wclF_no q0 q1 q2 q3 q4 q5 q6 q7 q8 q9 q10 q11] at h; exact absurd h (by decide)
theorem wcl_1 {B : Int → Int} {a x : Int} : wq1 B a x ↔ wcl B a x = (257, 1) := by
  refine ⟨wclF_1, fun h => ?_⟩
  by_cases q0 : wq0 B a x
  · rw [wclF_0 q0] at h; exact absurd h (by decide)
  by_cases q2 : wq2 B a x
  · rw [wclF_2 q2] at h; exact absurd h (by decide)
  by_cases q3 : wq3 B a x
  · rw [wclF_3 q3] at h; exact absurd h (by decide)
  by_cases q4 : wq4 B a x
  · rw [wclF_4 q4] at h; exact absurd h (by decide)
  by_cases q5 : wq5 B a x
  · rw [wclF_5 q5] at h; exact absurd h (by decide)
  by_cases q6 : wq6 B a x
  · rw [wclF_6 q6] at h; exact absurd h (by decide)
  by_cases q7 : wq7 B a x
  · rw [wclF_7 q7] at h; exact absurd h (by decide)
  by_cases q8 : wq8 B a x
  · rw [wclF_8 q8] at h; exact absurd h (by decide)
  by_cases q9 : wq9 B a x
  · rw [wclF_9 q9] at h; exact absurd h (by decide)
  by_cases q10 : wq10 B a x
  · rw [wclF_10 q10] at h; exact absurd h (by decide)
  by_cases q11 : wq11 B a x
  · rw [wclF_11 q11] at h; exact absurd h (by decide)
  by_cases q1 : wq1 B a x
  · exact q1
  · rw [wclF_no q0 q1 q2 q3 q4 q5 q6 q7 q8 q9 q10 q11] at h; exact absurd h (by decide)
theorem wcl_2 {B : Int → Int} {a x : Int} : wq2 B a x ↔ wcl B a x = (257, 2) := by
  refine ⟨wclF_2, fun h => ?_⟩
  by_cases q0 : wq0 B a x
  · rw [wclF_0 q0] at h; exact absurd h (by decide)
  by_cases q1 : wq1 B a x
  · rw [wclF_1 q1] at h; exact absurd h (by decide)
  by_cases q3 : wq3 B a x
  · rw [wclF_3 q3] at h; exact absurd h (by decide)
  by_cases q4 : wq4 B a x
  · rw [wclF_4 q4] at h; exact absurd h (by decide)
  by_cases q5 : wq5 B a x
  · rw [wclF_5 q5] at h; exact absurd h (by decide)
  by_cases q6 : wq6 B a x
  · rw [wclF_6 q6] at h; exact absurd h (by decide)
  by_cases q7 : wq7 B a x
  · rw [wclF_7 q7] at h; exact absurd h (by decide)
  by_cases q8 : wq8 B a x
  · rw [wclF_8 q8] at h; exact absurd h (by decide)
  by_cases q9 : wq9 B a x
  · rw [wclF_9 q9] at h; exact absurd h (by decide)
  by_cases q10 : wq10 B a x
  · rw [wclF_10 q10] at h; exact absurd h (by decide)
  by_cases q11 : wq11 B a x
  · rw [wclF_11 q11] at h; exact absurd h (by decide)
  by_cases q2 : wq2 B a x
  · exact q2
  · rw [wclF_no q0 q1 q2 q3 q4 q5 q6 q7 q8 q9 q10 q11] at h; exact absurd h (by decide)
theorem wcl_3 {B : Int → Int} {a x : Int} : wq3 B a x ↔ wcl B a x = (257, 3) := by
  refine ⟨wclF_3, fun h => ?_⟩
  by_cases q0 : wq0 B a x
  · rw [wclF_0 q0] at h; exact absurd h (by decide)
  by_cases q1 : wq1 B a x
  · rw [wclF_1 q1] at h; exact absurd h (by decide)
  by_cases q2 : wq2 B a x
  · rw [wclF_2 q2] at h; exact absurd h (by decide)
  by_cases q4 : wq4 B a x
  · rw [wclF_4 q4] at h; exact absurd h (by decide)
  by_cases q5 : wq5 B a x
  · rw [wclF_5 q5] at h; exact absurd h (by decide)
  by_cases q6 : wq6 B a x
  · rw [wclF_6 q6] at h; exact absurd h (by decide)
  by_cases q7 : wq7 B a x
  · rw [wclF_7 q7] at h; exact absurd h (by decide)
  by_cases q8 : wq8 B a x
  · rw [wclF_8 q8] at h; exact absurd h (by decide)
  by_cases q9 : wq9 B a x
  · rw [wclF_9 q9] at h; exact absurd h (by decide)
  by_cases q10 : wq10 B a x
  · rw [wclF_10 q10] at h; exact absurd h (by decide)
  by_cases q11 : wq11 B a x
  · rw [wclF_11 q11] at h; exact absurd h (by decide)
  by_cases q3 : wq3 B a x
  · exact q3
  · rw [wclF_no q0 q1 q2 q3 q4 q5 q6 q7 q8 q9 q10 q11] at h; exact absurd h (by decide)
theorem wcl_4 {B : Int → Int} {a x : Int} : wq4 B a x ↔ wcl B a x = (257, 4) := by
  refine ⟨wclF_4, fun h => ?_⟩
  by_cases q0 : wq0 B a x
  · rw [wclF_0 q0] at h; exact absurd h (by decide)
  by_cases q1 : wq1 B a x
  · rw [wclF_1 q1] at h; exact absurd h (by decide)
  by_cases q2 : wq2 B a x
  · rw [wclF_2 q2] at h; exact absurd h (by decide)
  by_cases q3 : wq3 B a x
  · rw [wclF_3 q3] at h; exact absurd h (by decide)
  by_cases q5 : wq5 B a x
  · rw [wclF_5 q5] at h; exact absurd h (by decide)
  by_cases q6 : wq6 B a x
  · rw [wclF_6 q6] at h; exact absurd h (by decide)
  by_cases q7 : wq7 B a x
  · rw [wclF_7 q7] at h; exact absurd h (by decide)
  by_cases q8 : wq8 B a x
  · rw [wclF_8 q8] at h; exact absurd h (by decide)
  by_cases q9 : wq9 B a x
  · rw [wclF_9 q9] at h; exact absurd h (by decide)
  by_cases q10 : wq10 B a x
  · rw [wclF_10 q10] at h; exact absurd h (by decide)
  by_cases q11 : wq11 B a x
  · rw [wclF_11 q11] at h; exact absurd h (by decide)
  by_cases q4 : wq4 B a x
  · exact q4
  · rw [wclF_no q0 q1 q2 q3 q4 q5 q6 q7 q8 q9 q10 q11] at h; exact absurd h (by decide)
theorem wcl_5 {B : Int → Int} {a x : Int} : wq5 B a x ↔ wcl B a x = (257, 5) := by
  refine ⟨wclF_5, fun h => ?_⟩
  by_cases q0 : wq0 B a x
  · rw [wclF_0 q0] at h; exact absurd h (by decide)
  by_cases q1 : wq1 B a x
  · rw [wclF_1 q1] at h; exact absurd h (by decide)
  by_cases q2 : wq2 B a x
  · rw [wclF_2 q2] at h; exact absurd h (by decide)
  by_cases q3 : wq3 B a x
  · rw [wclF_3 q3] at h; exact absurd h (by decide)
  by_cases q4 : wq4 B a x
  · rw [wclF_4 q4] at h; exact absurd h (by decide)
  by_cases q6 : wq6 B a x
  · rw [wclF_6 q6] at h; exact absurd h (by decide)
  by_cases q7 : wq7 B a x
  · rw [wclF_7 q7] at h; exact absurd h (by decide)
  by_cases q8 : wq8 B a x
  · rw [wclF_8 q8] at h; exact absurd h (by decide)
  by_cases q9 : wq9 B a x
  · rw [wclF_9 q9] at h; exact absurd h (by decide)
  by_cases q10 : wq10 B a x
  · rw [wclF_10 q10] at h; exact absurd h (by decide)
  by_cases q11 : wq11 B a x
  · rw [wclF_11 q11] at h; exact absurd h (by decide)
  by_cases q5 : wq5 B a x
  · exact q5
  · rw [wclF_no q0 q1 q2 q3 q4 q5 q6 q7 q8 q9 q10 q11] at h; exact absurd h (by decide)
theorem wcl_6 {B : Int → Int} {a x : Int} : wq6 B a x ↔ wcl B a x = (260, -1) := by
  refine ⟨wclF_6, fun h => ?_⟩
  by_cases q0 : wq0 B a x
  · rw [wclF_0 q0] at h; exact absurd h (by decide)
  by_cases q1 : wq1 B a x
  · rw [wclF_1 q1] at h; exact absurd h (by decide)
  by_cases q2 : wq2 B a x
  · rw [wclF_2 q2] at h; exact absurd h (by decide)
  by_cases q3 : wq3 B a x
  · rw [wclF_3 q3] at h; exact absurd h (by decide)
  by_cases q4 : wq4 B a x
  · rw [wclF_4 q4] at h; exact absurd h (by decide)
  by_cases q5 : wq5 B a x
  · rw [wclF_5 q5] at h; exact absurd h (by decide)
  by_cases q7 : wq7 B a x
  · rw [wclF_7 q7] at h; exact absurd h (by decide)
  by_cases q8 : wq8 B a x
  · rw [wclF_8 q8] at h; exact absurd h (by decide)
  by_cases q9 : wq9 B a x
  · rw [wclF_9 q9] at h; exact absurd h (by decide)
  by_cases q10 : wq10 B a x
  · rw [wclF_10 q10] at h; exact absurd h (by decide)
  by_cases q11 : wq11 B a x
  · rw [wclF_11 q11] at h; exact absurd h (by decide)
  by_cases q6 : wq6 B a x
  · exact q6
  · rw [wclF_no q0 q1 q2 q3 q4 q5 q6 q7 q8 q9 q10 q11] at h; exact absurd h (by decide)
theorem wcl_7 {B : Int → Int} {a x : Int} : wq7 B a x ↔ wcl B a x = (261, -1) := by
  refine ⟨wclF_7, fun h => ?_⟩
  by_cases q0 : wq0 B a x
  · rw [wclF_0 q0] at h; exact absurd h (by decide)
  by_cases q1 : wq1 B a x
  · rw [wclF_1 q1] at h; exact absurd h (by decide)
  by_cases q2 : wq2 B a x
  · rw [wclF_2 q2] at h; exact absurd h (by decide)
  by_cases q3 : wq3 B a x
  · rw [wclF_3 q3] at h; exact absurd h (by decide)
  by_cases q4 : wq4 B a x
  · rw [wclF_4 q4] at h; exact absurd h (by decide)
  by_cases q5 : wq5 B a x
  · rw [wclF_5 q5] at h; exact absurd h (by decide)
  by_cases q6 : wq6 B a x
  · rw [wclF_6 q6] at h; exact absurd h (by decide)
  by_cases q8 : wq8 B a x
  · rw [wclF_8 q8] at h; exact absurd h (by decide)
  by_cases q9 : wq9 B a x
  · rw [wclF_9 q9] at h; exact absurd h (by decide)
  by_cases q10 : wq10 B a x
  · rw [wclF_10 q10] at h; exact absurd h (by decide)
  by_cases q11 : wq11 B a x
  · rw [wclF_11 q11] at h; exact absurd h (by decide)
  by_cases q7 : wq7 B a x
  · exact q7
  · rw [wclF_no q0 q1 q2 q3 q4 q5 q6 q7 q8 q9 q10 q11] at h; exact absurd h (by decide)
theorem wcl_8 {B : Int → Int} {a x : Int} : wq8 B a x ↔ wcl B a x = (262, -1) := by
  refine ⟨wclF_8, fun h => ?_⟩
  by_cases q0 : wq0 B a x
  · rw [wclF_0 q0] at h; exact absurd h (by decide)
  by_cases q1 : wq1 B a x
  · rw [wclF_1 q1] at h; exact absurd h (by decide)
  by_cases q2 : wq2 B a x
  · rw [wclF_2 q2] at h; exact absurd h (by decide)
  by_cases q3 : wq3 B a x
  · rw [wclF_3 q3] at h; exact absurd h (by decide)
  by_cases q4 : wq4 B a x
  · rw [wclF_4 q4] at h; exact absurd h (by decide)
  by_cases q5 : wq5 B a x
  · rw [wclF_5 q5] at h; exact absurd h (by decide)
  by_cases q6 : wq6 B a x
  · rw [wclF_6 q6] at h; exact absurd h (by decide)
  by_cases q7 : wq7 B a x
  · rw [wclF_7 q7] at h; exact absurd h (by decide)
  by_cases q9 : wq9 B a x
  · rw [wclF_9 q9] at h; exact absurd h (by decide)
  by_cases q10 : wq10 B a x
  · rw [wclF_10 q10] at h; exact absurd h (by decide)
  by_cases q11 : wq11 B a x
  · rw [wclF_11 q11] at h; exact absurd h (by decide)
  by_cases q8 : wq8 B a x
  · exact q8
  · rw [wclF_no q0 q1 q2 q3 q4 q5 q6 q7 q8 q9 q10 q11] at h; exact absurd h (by decide)
theorem wcl_9 {B : Int → Int} {a x : Int} : wq9 B a x ↔ wcl B a x = (263, -1) := by
  refine ⟨wclF_9, fun h => ?_⟩
  by_cases q0 : wq0 B a x
  · rw [wclF_0 q0] at h; exact absurd h (by decide)
  by_cases q1 : wq1 B a x
  · rw [wclF_1 q1] at h; exact absurd h (by decide)
  by_cases q2 : wq2 B a x
  · rw [wclF_2 q2] at h; exact absurd h (by decide)
  by_cases q3 : wq3 B a x
  · rw [wclF_3 q3] at h; exact absurd h (by decide)
  by_cases q4 : wq4 B a x
  · rw [wclF_4 q4] at h; exact absurd h (by decide)
  by_cases q5 : wq5 B a x
  · rw [wclF_5 q5] at h; exact absurd h (by decide)
  by_cases q6 : wq6 B a x
  · rw [wclF_6 q6] at h; exact absurd h (by decide)
  by_cases q7 : wq7 B a x
  · rw [wclF_7 q7] at h; exact absurd h (by decide)
  by_cases q8 : wq8 B a x
  · rw [wclF_8 q8] at h; exact absurd h (by decide)
  by_cases q10 : wq10 B a x
  · rw [wclF_10 q10] at h; exact absurd h (by decide)
  by_cases q11 : wq11 B a x
  · rw [wclF_11 q11] at h; exact absurd h (by decide)
  by_cases q9 : wq9 B a x
  · exact q9
  · rw [wclF_no q0 q1 q2 q3 q4 q5 q6 q7 q8 q9 q10 q11] at h; exact absurd h (by decide)
theorem wcl_10 {B : Int → Int} {a x : Int} : wq10 B a x ↔ wcl B a x = (264, -1) := by
  refine ⟨wclF_10, fun h => ?_⟩
  by_cases q0 : wq0 B a x
  · rw [wclF_0 q0] at h; exact absurd h (by decide)
  by_cases q1 : wq1 B a x
  · rw [wclF_1 q1] at h; exact absurd h (by decide)
  by_cases q2 : wq2 B a x
  · rw [wclF_2 q2] at h; exact absurd h (by decide)
  by_cases q3 : wq3 B a x
  · rw [wclF_3 q3] at h; exact absurd h (by decide)
  by_cases q4 : wq4 B a x
  · rw [wclF_4 q4] at h; exact absurd h (by decide)
  by_cases q5 : wq5 B a x
  · rw [wclF_5 q5] at h; exact absurd h (by decide)
  by_cases q6 : wq6 B a x
  · rw [wclF_6 q6] at h; exact absurd h (by decide)
  by_cases q7 : wq7 B a x
  · rw [wclF_7 q7] at h; exact absurd h (by decide)
  by_cases q8 : wq8 B a x
  · rw [wclF_8 q8] at h; exact absurd h (by decide)
  by_cases q9 : wq9 B a x
  · rw [wclF_9 q9] at h; exact absurd h (by decide)
  by_cases q11 : wq11 B a x
  · rw [wclF_11 q11] at h; exact absurd h (by decide)
  by_cases q10 : wq10 B a x
  · exact q10
  · rw [wclF_no q0 q1 q2 q3 q4 q5 q6 q7 q8 q9 q10 q11] at h; exact absurd h (by decide)
theorem wcl_11 {B : Int → Int} {a x : Int} : wq11 B a x ↔ wcl B a x = (265, -1) := by
  refine ⟨wclF_11, fun h => ?_⟩
  by_cases q0 : wq0 B a x
  · rw [wclF_0 q0] at h; exact absurd h (by decide)
  by_cases q1 : wq1 B a x
  · rw [wclF_1 q1] at h; exact absurd h (by decide)
  by_cases q2 : wq2 B a x
  · rw [wclF_2 q2] at h; exact absurd h (by decide)
  by_cases q3 : wq3 B a x
  · rw [wclF_3 q3] at h; exact absurd h (by decide)
  by_cases q4 : wq4 B a x
  · rw [wclF_4 q4] at h; exact absurd h (by decide)
  by_cases q5 : wq5 B a x
  · rw [wclF_5 q5] at h; exact absurd h (by decide)
  by_cases q6 : wq6 B a x
  · rw [wclF_6 q6] at h; exact absurd h (by decide)
  by_cases q7 : wq7 B a x
  · rw [wclF_7 q7] at h; exact absurd h (by decide)
  by_cases q8 : wq8 B a x
  · rw [wclF_8 q8] at h; exact absurd h (by decide)
  by_cases q9 : wq9 B a x
  · rw [wclF_9 q9] at h; exact absurd h (by decide)
  by_cases q10 : wq10 B a x
  · rw [wclF_10 q10] at h; exact absurd h (by decide)
  by_cases q11 : wq11 B a x
  · exact q11
  · rw [wclF_no q0 q1 q2 q3 q4 q5 q6 q7 q8 q9 q10 q11] at h; exact absurd h (by decide)
theorem wcl_rg {B : Int → Int} {a x : Int} : ((wcl B a x).1 = 257 ∧ 0 ≤ (wcl B a x).2 ∧ (wcl B a x).2 ≤ 5) ∨ (259 ≤ (wcl B a x).1 ∧ (wcl B a x).1 ≤ 265 ∧ (wcl B a x).2 = -1) := by
  by_cases q0 : wq0 B a x
  · rw [wclF_0 q0]; decide
  by_cases q1 : wq1 B a x
  · rw [wclF_1 q1]; decide
  by_cases q2 : wq2 B a x
  · rw [wclF_2 q2]; decide
  by_cases q3 : wq3 B a x
  · rw [wclF_3 q3]; decide
  by_cases q4 : wq4 B a x
  · rw [wclF_4 q4]; decide
  by_cases q5 : wq5 B a x
  · rw [wclF_5 q5]; decide
  by_cases q6 : wq6 B a x
  · rw [wclF_6 q6]; decide
  by_cases q7 : wq7 B a x
  · rw [wclF_7 q7]; decide
  by_cases q8 : wq8 B a x
  · rw [wclF_8 q8]; decide
  by_cases q9 : wq9 B a x
  · rw [wclF_9 q9]; decide
  by_cases q10 : wq10 B a x
  · rw [wclF_10 q10]; decide
  by_cases q11 : wq11 B a x
  · rw [wclF_11 q11]; decide
  rw [wclF_no q0 q1 q2 q3 q4 q5 q6 q7 q8 q9 q10 q11]; decide
def nv (B : Int → Int) (a : Int) : Nat → Int
  | 0 => 0
  | k + 1 => nv B a k * 10 + B (a + k) - 48
theorem nv_rg {B : Int → Int} {a : Int} : ∀ k : Nat, (∀ j, a ≤ j → j < a + k → bDg (B j)) → k ≤ 4 → 0 ≤ nv B a k ∧ nv B a k ≤ (if k = 0 then 0 else if k = 1 then 9 else if k = 2 then 99 else if k = 3 then 999 else 9999)
  | 0, _, _ => ⟨Int.le_refl 0, Int.le_refl 0⟩
  | k + 1, h, hk => by
    have ih := nv_rg (B := B) (a := a) k (fun j h1 h2 => h j h1 (by omega)) (by omega)
    have hd := h (a + k) (by omega) (by omega)
    have e : nv B a (k + 1) = nv B a k * 10 + B (a + k) - 48 := rfl
    rw [e]
    rcases (show k = 0 ∨ k = 1 ∨ k = 2 ∨ k = 3 by omega) with r | r | r | r <;> subst r <;> simp at ih hd ⊢ <;> omega
/-- a token: its place, the place behind it, what it is, its number -/
def lex (B : Int → Int) (n i : Int) : Int × Int × Int × Int :=
  if n ≤ bhd 0 B n i then (bhd 0 B n i, bhd 0 B n i, 258, 0)
  else if bLt (B (bhd 0 B n i)) then (bhd 0 B n i, bhd 1 B n (bhd 0 B n i), (wcl B (bhd 0 B n i) (bhd 1 B n (bhd 0 B n i))).1, (wcl B (bhd 0 B n i) (bhd 1 B n (bhd 0 B n i))).2)
  else if bDg (B (bhd 0 B n i)) then (bhd 0 B n i, bhd 2 B n (bhd 0 B n i), if 4 < bhd 2 B n (bhd 0 B n i) - bhd 0 B n i then 259 else 256, nv B (bhd 0 B n i) (bhd 2 B n (bhd 0 B n i) - bhd 0 B n i).toNat)
  else if bSg (B (bhd 0 B n i)) then (bhd 0 B n i, bhd 0 B n i + 1, B (bhd 0 B n i), 0)
  else (bhd 0 B n i, bhd 0 B n i, 259, 0)
theorem lex_wf {B : Int → Int} {n i : Int} (hi : i ≤ n) : (i ≤ (lex B n i).1 ∧ (lex B n i).1 ≤ n) ∧ ((lex B n i).2.2.1 ≠ 258 → (lex B n i).2.2.1 ≠ 259 → (lex B n i).1 < (lex B n i).2.1 ∧ (lex B n i).2.1 ≤ n) ∧ ((lex B n i).2.2.1 = 256 → 0 ≤ (lex B n i).2.2.2 ∧ (lex B n i).2.2.2 ≤ 9999) ∧ ((lex B n i).2.2.1 = 257 → 0 ≤ (lex B n i).2.2.2 ∧ (lex B n i).2.2.2 ≤ 5) := by
  obtain ⟨h1, h2, h3, h4⟩ := bhd_rg (q := 0) (B := B) hi
  unfold lex
  generalize bhd 0 B n i = a at *
  split
  · exact ⟨⟨h1, h2⟩, fun h => absurd rfl h, fun h => absurd h (by show ¬ (258 : Int) = 256; decide), fun h => absurd h (by show ¬ (258 : Int) = 257; decide)⟩
  · next hn =>
    split
    · next hl =>
      obtain ⟨g1, g2, g3, g4⟩ := bhd_rg (q := 1) (B := B) h2
      have g5 : bhd 1 B n a = bhd 1 B n (a + 1) := bhd_step (by omega) hl
      have g6 := (bhd_rg (q := 1) (B := B) (n := n) (i := a + 1) (by omega)).1
      have hw := wcl_rg (B := B) (a := a) (x := bhd 1 B n a)
      refine ⟨⟨h1, h2⟩, fun _ _ => ⟨by show a < bhd 1 B n a; omega, g2⟩, fun h => ?_, fun h => ?_⟩
      · have h : (wcl B a (bhd 1 B n a)).1 = 256 := h
        exfalso; omega
      · have h : (wcl B a (bhd 1 B n a)).1 = 257 := h
        show 0 ≤ (wcl B a (bhd 1 B n a)).2 ∧ (wcl B a (bhd 1 B n a)).2 ≤ 5
        omega
    · next hl =>
      split
      · next hd =>
        obtain ⟨g1, g2, g3, g4⟩ := bhd_rg (q := 2) (B := B) h2
        have g5 : bhd 2 B n a = bhd 2 B n (a + 1) := bhd_step (by omega) hd
        have g6 := (bhd_rg (q := 2) (B := B) (n := n) (i := a + 1) (by omega)).1
        refine ⟨⟨h1, h2⟩, fun _ _ => ⟨by show a < bhd 2 B n a; omega, g2⟩, fun h => ?_, fun h => ?_⟩
        · have h : (if 4 < bhd 2 B n a - a then (259 : Int) else 256) = 256 := h
          by_cases hc : 4 < bhd 2 B n a - a
          · rw [if_pos hc] at h; exact absurd h (by decide)
          · have := nv_rg (B := B) (a := a) (bhd 2 B n a - a).toNat (fun j j1 j2 => g3 j j1 (by omega)) (by omega)
            refine ⟨this.1, Int.le_trans this.2 ?_⟩
            repeat' split
            all_goals omega
        · have h : (if 4 < bhd 2 B n a - a then (259 : Int) else 256) = 257 := h
          split at h <;> exact absurd h (by decide)
      · split
        · next hs =>
          refine ⟨⟨h1, h2⟩, fun _ _ => ⟨by show a < a + 1; omega, by show a + 1 ≤ n; omega⟩, fun h => ?_, fun h => ?_⟩
          · have h : B a = 256 := h
            exfalso; omega
          · have h : B a = 257 := h
            exfalso; omega
        · exact ⟨⟨h1, h2⟩, fun _ h => absurd rfl h, fun h => absurd h (by show ¬ (259 : Int) = 256; decide), fun h => absurd h (by show ¬ (259 : Int) = 257; decide)⟩
theorem lex_B {B B' : Int → Int} {n i : Int} (h0 : 0 ≤ i) (hi : i ≤ n) (h : ∀ j, 0 ≤ j → j < n → B' j = B j) : True := trivial

