/-! READING, purely: bytes, tokens -/
abbrev bSp (b : Int) : Prop := b = 32 ∨ b = 10
abbrev bLt (b : Int) : Prop := 97 ≤ b ∧ b ≤ 122
abbrev bDg (b : Int) : Prop := 48 ≤ b ∧ b ≤ 57
abbrev bSg (b : Int) : Prop := b = 40 ∨ b = 41 ∨ b = 59 ∨ b = 43 ∨ b = 45 ∨ b = 42 ∨ b = 60 ∨ b = 61
/-- q: 0 blanks, 1 letters, else digits -/
abbrev bQ (q b : Int) : Prop := if q = 0 then bSp b else if q = 1 then bLt b else bDg b
def bhF (q : Int) (B : Int → Int) : Nat → Int → Int
  | 0, i => i
  | k + 1, i => if bQ q (B i) then bhF q B k (i + 1) else i
def bhd (q : Int) (B : Int → Int) (n i : Int) : Int := bhF q B (n - i).toNat i
theorem bhd_step {q : Int} {B : Int → Int} {n i : Int} (h : i < n) (hq : bQ q (B i)) : bhd q B n i = bhd q B n (i + 1) := by
  unfold bhd
  rw [show (n - i).toNat = (n - (i + 1)).toNat + 1 by omega]
  exact if_pos hq
theorem bhd_stop {q : Int} {B : Int → Int} {n i : Int} (hq : ¬ bQ q (B i)) : bhd q B n i = i := by
  unfold bhd
  cases h : (n - i).toNat with
  | zero => rfl
  | succ k => exact if_neg hq
theorem bhd_end {q : Int} {B : Int → Int} {n i : Int} (h : n ≤ i) : bhd q B n i = i := by
  unfold bhd
  rw [show (n - i).toNat = 0 by omega]; rfl
theorem bhF_rg {q : Int} {B : Int → Int} : ∀ (k : Nat) (i : Int), i ≤ bhF q B k i ∧ bhF q B k i ≤ i + k ∧ (∀ j, i ≤ j → j < bhF q B k i → bQ q (B j)) ∧ (bhF q B k i < i + k → ¬ bQ q (B (bhF q B k i)))
  | 0, i => ⟨Int.le_refl _, by show i ≤ i + _; omega, fun j h1 h2 => by have h3 : j < i := h2; omega, fun h => by have h3 : i < i + ((0 : Nat) : Int) := h; omega⟩
  | k + 1, i => by
    by_cases hq : bQ q (B i)
    · have e : bhF q B (k + 1) i = bhF q B k (i + 1) := if_pos hq
      obtain ⟨h1, h2, h3, h4⟩ := bhF_rg (q := q) (B := B) k (i + 1)
      rw [e]
      refine ⟨by omega, by omega, fun j j1 j2 => ?_, fun h => h4 (by omega)⟩
      by_cases hj : j = i
      · rw [hj]; exact hq
      · exact h3 j (by omega) j2
    · have e : bhF q B (k + 1) i = i := if_neg hq
      rw [e]
      exact ⟨Int.le_refl _, by omega, fun j j1 j2 => by omega, fun _ => hq⟩
theorem bhd_rg {q : Int} {B : Int → Int} {n i : Int} (h : i ≤ n) : i ≤ bhd q B n i ∧ bhd q B n i ≤ n ∧ (∀ j, i ≤ j → j < bhd q B n i → bQ q (B j)) ∧ (bhd q B n i < n → ¬ bQ q (B (bhd q B n i))) := by
  obtain ⟨h1, h2, h3, h4⟩ := bhF_rg (q := q) (B := B) (n - i).toNat i
  exact ⟨h1, by unfold bhd; omega, h3, fun hh => h4 (by unfold bhd at hh; omega)⟩
abbrev wq0 (B : Int → Int) (a x : Int) : Prop := x - a = 5 ∧ B (a + 0) = 112 ∧ B (a + 1) = 97 ∧ B (a + 2) = 114 ∧ B (a + 3) = 116 ∧ B (a + 4) = 115
abbrev wq1 (B : Int → Int) (a x : Int) : Prop := x - a = 4 ∧ B (a + 0) = 100 ∧ B (a + 1) = 97 ∧ B (a + 2) = 109 ∧ B (a + 3) = 112
abbrev wq2 (B : Int → Int) (a x : Int) : Prop := x - a = 3 ∧ B (a + 0) = 108 ∧ B (a + 1) = 105 ∧ B (a + 2) = 116
abbrev wq3 (B : Int → Int) (a x : Int) : Prop := x - a = 5 ∧ B (a + 0) = 98 ∧ B (a + 1) = 117 ∧ B (a + 2) = 114 ∧ B (a + 3) = 110 ∧ B (a + 4) = 116
abbrev wq4 (B : Int → Int) (a x : Int) : Prop := x - a = 4 ∧ B (a + 0) = 119 ∧ B (a + 1) = 105 ∧ B (a + 2) = 99 ∧ B (a + 3) = 107
abbrev wq5 (B : Int → Int) (a x : Int) : Prop := x - a = 4 ∧ B (a + 0) = 115 ∧ B (a + 1) = 112 ∧ B (a + 2) = 97 ∧ B (a + 3) = 110
abbrev wq6 (B : Int → Int) (a x : Int) : Prop := x - a = 5 ∧ B (a + 0) = 99 ∧ B (a + 1) = 111 ∧ B (a + 2) = 115 ∧ B (a + 3) = 116 ∧ B (a + 4) = 115
abbrev wq7 (B : Int → Int) (a x : Int) : Prop := x - a = 5 ∧ B (a + 0) = 119 ∧ B (a + 1) = 111 ∧ B (a + 2) = 114 ∧ B (a + 3) = 116 ∧ B (a + 4) = 104
abbrev wq8 (B : Int → Int) (a x : Int) : Prop := x - a = 5 ∧ B (a + 0) = 100 ∧ B (a + 1) = 114 ∧ B (a + 2) = 105 ∧ B (a + 3) = 102 ∧ B (a + 4) = 116
abbrev wq9 (B : Int → Int) (a x : Int) : Prop := x - a = 2 ∧ B (a + 0) = 111 ∧ B (a + 1) = 114
abbrev wq10 (B : Int → Int) (a x : Int) : Prop := x - a = 3 ∧ B (a + 0) = 97 ∧ B (a + 1) = 110 ∧ B (a + 2) = 100
abbrev wq11 (B : Int → Int) (a x : Int) : Prop := x - a = 3 ∧ B (a + 0) = 110 ∧ B (a + 1) = 111 ∧ B (a + 2) = 116
def wcl (B : Int → Int) (a x : Int) : Int × Int := if wq0 B a x then (257, 0) else if wq1 B a x then (257, 1) else if wq2 B a x then (257, 2) else if wq3 B a x then (257, 3) else if wq4 B a x then (257, 4) else if wq5 B a x then (257, 5) else if wq6 B a x then (260, -1) else if wq7 B a x then (261, -1) else if wq8 B a x then (262, -1) else if wq9 B a x then (263, -1) else if wq10 B a x then (264, -1) else if wq11 B a x then (265, -1) else (259, -1)
theorem wcl_0 {B : Int → Int} {a x : Int} : wq0 B a x ↔ wcl B a x = (257, 0) := by
  constructor
  · intro h
    unfold wcl
    rw [if_pos h]
  · intro h
    unfold wcl at h
    repeat' (split at h)
    all_goals first | assumption | (exfalso; revert h; decide)
theorem wcl_1 {B : Int → Int} {a x : Int} : wq1 B a x ↔ wcl B a x = (257, 1) := by
  constructor
  · intro h
    unfold wcl
    rw [if_neg (by omega), if_pos h]
  · intro h
    unfold wcl at h
    repeat' (split at h)
    all_goals first | assumption | (exfalso; revert h; decide)
theorem wcl_2 {B : Int → Int} {a x : Int} : wq2 B a x ↔ wcl B a x = (257, 2) := by
  constructor
  · intro h
    unfold wcl
    rw [if_neg (by omega), if_neg (by omega), if_pos h]
  · intro h
    unfold wcl at h
    repeat' (split at h)
    all_goals first | assumption | (exfalso; revert h; decide)
theorem wcl_3 {B : Int → Int} {a x : Int} : wq3 B a x ↔ wcl B a x = (257, 3) := by
  constructor
  · intro h
    unfold wcl
    rw [if_neg (by omega), if_neg (by omega), if_neg (by omega), if_pos h]
  · intro h
    unfold wcl at h
    repeat' (split at h)
    all_goals first | assumption | (exfalso; revert h; decide)
theorem wcl_4 {B : Int → Int} {a x : Int} : wq4 B a x ↔ wcl B a x = (257, 4) := by
  constructor
  · intro h
    unfold wcl
    rw [if_neg (by omega), if_neg (by omega), if_neg (by omega), if_neg (by omega), if_pos h]
  · intro h
    unfold wcl at h
    repeat' (split at h)
    all_goals first | assumption | (exfalso; revert h; decide)
theorem wcl_5 {B : Int → Int} {a x : Int} : wq5 B a x ↔ wcl B a x = (257, 5) := by
  constructor
  · intro h
    unfold wcl
    rw [if_neg (by omega), if_neg (by omega), if_neg (by omega), if_neg (by omega), if_neg (by omega), if_pos h]
  · intro h
    unfold wcl at h
    repeat' (split at h)
    all_goals first | assumption | (exfalso; revert h; decide)
theorem wcl_6 {B : Int → Int} {a x : Int} : wq6 B a x ↔ wcl B a x = (260, -1) := by
  constructor
  · intro h
    unfold wcl
    rw [if_neg (by omega), if_neg (by omega), if_neg (by omega), if_neg (by omega), if_neg (by omega), if_neg (by omega), if_pos h]
  · intro h
    unfold wcl at h
    repeat' (split at h)
    all_goals first | assumption | (exfalso; revert h; decide)
theorem wcl_7 {B : Int → Int} {a x : Int} : wq7 B a x ↔ wcl B a x = (261, -1) := by
  constructor
  · intro h
    unfold wcl
    rw [if_neg (by omega), if_neg (by omega), if_neg (by omega), if_neg (by omega), if_neg (by omega), if_neg (by omega), if_neg (by omega), if_pos h]
  · intro h
    unfold wcl at h
    repeat' (split at h)
    all_goals first | assumption | (exfalso; revert h; decide)
theorem wcl_8 {B : Int → Int} {a x : Int} : wq8 B a x ↔ wcl B a x = (262, -1) := by
  constructor
  · intro h
    unfold wcl
    rw [if_neg (by omega), if_neg (by omega), if_neg (by omega), if_neg (by omega), if_neg (by omega), if_neg (by omega), if_neg (by omega), if_neg (by omega), if_pos h]
  · intro h
    unfold wcl at h
    repeat' (split at h)
    all_goals first | assumption | (exfalso; revert h; decide)
theorem wcl_9 {B : Int → Int} {a x : Int} : wq9 B a x ↔ wcl B a x = (263, -1) := by
  constructor
  · intro h
    unfold wcl
    rw [if_neg (by omega), if_neg (by omega), if_neg (by omega), if_neg (by omega), if_neg (by omega), if_neg (by omega), if_neg (by omega), if_neg (by omega), if_neg (by omega), if_pos h]
  · intro h
    unfold wcl at h
    repeat' (split at h)
    all_goals first | assumption | (exfalso; revert h; decide)
theorem wcl_10 {B : Int → Int} {a x : Int} : wq10 B a x ↔ wcl B a x = (264, -1) := by
  constructor
  · intro h
    unfold wcl
    rw [if_neg (by omega), if_neg (by omega), if_neg (by omega), if_neg (by omega), if_neg (by omega), if_neg (by omega), if_neg (by omega), if_neg (by omega), if_neg (by omega), if_neg (by omega), if_pos h]
  · intro h
    unfold wcl at h
    repeat' (split at h)
    all_goals first | assumption | (exfalso; revert h; decide)
theorem wcl_11 {B : Int → Int} {a x : Int} : wq11 B a x ↔ wcl B a x = (265, -1) := by
  constructor
  · intro h
    unfold wcl
    rw [if_neg (by omega), if_neg (by omega), if_neg (by omega), if_neg (by omega), if_neg (by omega), if_neg (by omega), if_neg (by omega), if_neg (by omega), if_neg (by omega), if_neg (by omega), if_neg (by omega), if_pos h]
  · intro h
    unfold wcl at h
    repeat' (split at h)
    all_goals first | assumption | (exfalso; revert h; decide)
theorem wcl_rg {B : Int → Int} {a x : Int} : ((wcl B a x).1 = 257 ∧ 0 ≤ (wcl B a x).2 ∧ (wcl B a x).2 ≤ 5) ∨ (259 ≤ (wcl B a x).1 ∧ (wcl B a x).1 ≤ 265 ∧ (wcl B a x).2 = -1) := by
  unfold wcl
  repeat' split
  all_goals decide
def nv (B : Int → Int) (a : Int) : Nat → Int
  | 0 => 0
  | k + 1 => nv B a k * 10 + B (a + k) - 48
theorem nv_rg {B : Int → Int} {a : Int} : ∀ k : Nat, (∀ j, a ≤ j → j < a + k → bDg (B j)) → k ≤ 4 → 0 ≤ nv B a k ∧ nv B a k ≤ (if k = 0 then 0 else if k = 1 then 9 else if k = 2 then 99 else if k = 3 then 999 else 9999)
  | 0, _, _ => by decide
  | k + 1, h, hk => by
    have ih := nv_rg (B := B) (a := a) k (fun j h1 h2 => h j h1 (by omega)) (by omega)
    have hd := h (a + k) (by omega) (by omega)
    have e : nv B a (k + 1) = nv B a k * 10 + B (a + k) - 48 := rfl
    rw [e]
    rcases (show k = 0 ∨ k = 1 ∨ k = 2 ∨ k = 3 by omega) with r | r | r | r <;> subst r <;> simp at ih ⊢ <;> omega
/-- a token: its place, the place behind it, what it is, its number -/
def lex (B : Int → Int) (n i : Int) : Int × Int × Int × Int :=
  if n ≤ bhd 0 B n i then (bhd 0 B n i, bhd 0 B n i, 258, 0)
  else if bLt (B (bhd 0 B n i)) then (bhd 0 B n i, bhd 1 B n (bhd 0 B n i), (wcl B (bhd 0 B n i) (bhd 1 B n (bhd 0 B n i))).1, (wcl B (bhd 0 B n i) (bhd 1 B n (bhd 0 B n i))).2)
  else if bDg (B (bhd 0 B n i)) then (bhd 0 B n i, bhd 2 B n (bhd 0 B n i), if 4 < bhd 2 B n (bhd 0 B n i) - bhd 0 B n i then 259 else 256, nv B (bhd 0 B n i) (bhd 2 B n (bhd 0 B n i) - bhd 0 B n i).toNat)
  else if bSg (B (bhd 0 B n i)) then (bhd 0 B n i, bhd 0 B n i + 1, B (bhd 0 B n i), 0)
  else (bhd 0 B n i, bhd 0 B n i, 259, 0)
theorem lex_wf {B : Int → Int} {n i : Int} (hi : i ≤ n) : (i ≤ (lex B n i).1 ∧ (lex B n i).1 ≤ n) ∧ ((lex B n i).2.2.1 ≠ 258 → (lex B n i).2.2.1 ≠ 259 → (lex B n i).1 < (lex B n i).2.1 ∧ (lex B n i).2.1 ≤ n) ∧ ((lex B n i).2.2.1 = 256 → 0 ≤ (lex B n i).2.2.2 ∧ (lex B n i).2.2.2 ≤ 9999) ∧ ((lex B n i).2.2.1 = 257 → 0 ≤ (lex B n i).2.2.2 ∧ (lex B n i).2.2.2 ≤ 5) := by
  obtain ⟨h1, h2, h3, h4⟩ := bhd_rg (q := 0) (B := B) hi
  unfold lex
  generalize bhd 0 B n i = a at *
  split
  · exact ⟨⟨h1, h2⟩, fun h => absurd rfl h, fun h => absurd h (by decide), fun h => absurd h (by decide)⟩
  · next hn =>
    split
    · next hl =>
      obtain ⟨g1, g2, g3, g4⟩ := bhd_rg (q := 1) (B := B) h2
      have g5 : bhd 1 B n a = bhd 1 B n (a + 1) := bhd_step (by omega) hl
      have g6 := (bhd_rg (q := 1) (B := B) (n := n) (i := a + 1) (by omega)).1
      have hw := wcl_rg (B := B) (a := a) (x := bhd 1 B n a)
      refine ⟨⟨h1, h2⟩, fun _ _ => ⟨by show a < bhd 1 B n a; omega, g2⟩, fun h => ?_, fun h => ?_⟩
      · have h : (wcl B a (bhd 1 B n a)).1 = 256 := h
        exfalso; omega
      · have h : (wcl B a (bhd 1 B n a)).1 = 257 := h
        show 0 ≤ (wcl B a (bhd 1 B n a)).2 ∧ (wcl B a (bhd 1 B n a)).2 ≤ 5
        omega
    · next hl =>
      split
      · next hd =>
        obtain ⟨g1, g2, g3, g4⟩ := bhd_rg (q := 2) (B := B) h2
        have g5 : bhd 2 B n a = bhd 2 B n (a + 1) := bhd_step (by omega) hd
        have g6 := (bhd_rg (q := 2) (B := B) (n := n) (i := a + 1) (by omega)).1
        refine ⟨⟨h1, h2⟩, fun _ _ => ⟨by show a < bhd 2 B n a; omega, g2⟩, fun h => ?_, fun h => ?_⟩
        · have h : (if 4 < bhd 2 B n a - a then (259 : Int) else 256) = 256 := h
          by_cases hc : 4 < bhd 2 B n a - a
          · rw [if_pos hc] at h; exact absurd h (by decide)
          · have := nv_rg (B := B) (a := a) (bhd 2 B n a - a).toNat (fun j j1 j2 => g3 j j1 (by omega)) (by omega)
            refine ⟨this.1, Int.le_trans this.2 ?_⟩
            repeat' split
            all_goals omega
        · have h : (if 4 < bhd 2 B n a - a then (259 : Int) else 256) = 257 := h
          split at h <;> exact absurd h (by decide)
      · split
        · next hs =>
          refine ⟨⟨h1, h2⟩, fun _ _ => ⟨by show a < a + 1; omega, by show a + 1 ≤ n; omega⟩, fun h => ?_, fun h => ?_⟩
          · have h : B a = 256 := h
            exfalso; omega
          · have h : B a = 257 := h
            exfalso; omega
        · exact ⟨⟨h1, h2⟩, fun _ h => absurd rfl h, fun h => absurd h (by show ¬ (259 : Int) = 256; decide), fun h => absurd h (by show ¬ (259 : Int) = 257; decide)⟩
theorem lex_B {B B' : Int → Int} {n i : Int} (h0 : 0 ≤ i) (hi : i ≤ n) (h : ∀ j, 0 ≤ j → j < n → B' j = B j) : True := trivial
/-! a reading's state: place, place behind, token, number, code, what was said last -/
abbrev pV : Type := (Int → Int) → Int
abbrev pT : Type := Int × Int × Int × Int × List Int × pV
abbrev pat (x : pT) : Int := x.1
abbrev pnx (x : pT) : Int := x.2.1
abbrev ptk (x : pT) : Int := x.2.2.1
abbrev pvl (x : pT) : Int := x.2.2.2.1
abbrev pcd (x : pT) : List Int := x.2.2.2.2.1
abbrev pv (x : pT) : pV := x.2.2.2.2.2
abbrev pE : Type := Except Int pT
def eb (x : pE) (f : pT → pE) : pE := match x with
  | .ok a => f a
  | .error p => .error p
theorem eb_ok {x : pT} {f : pT → pE} : eb (.ok x) f = f x := rfl
theorem eb_er {p : Int} {f : pT → pE} : eb (.error p) f = .error p := rfl
theorem eb_inv {x : pE} {f : pT → pE} {y : pT} (h : eb x f = .ok y) : ∃ z, x = .ok z ∧ f z = .ok y := by
  cases x with
  | ok z => exact ⟨z, rfl, h⟩
  | error p => cases h
theorem eb_assoc {x : pE} {f g : pT → pE} : eb (eb x f) g = eb x (fun y => eb (f y) g) := by cases x <;> rfl
def adv (B : Int → Int) (n : Int) (x : pT) : pE := if (lex B n (pnx x)).2.2.1 = 259 then .error (lex B n (pnx x)).1 else .ok ((lex B n (pnx x)).1, (lex B n (pnx x)).2.1, (lex B n (pnx x)).2.2.1, (lex B n (pnx x)).2.2.2, pcd x, pv x)
def expc (B : Int → Int) (n w : Int) (x : pT) : pE := if ptk x = w then adv B n x else .error (pat x)
def emt (c : Int) (v : pV) (x : pT) : pT := (pat x, pnx x, ptk x, pvl x, pcd x ++ [c], v)
def wI (a : Int) : Int := (iv a).toInt
def binZ (c a b : Int) : Int := if c = -1 then wI (a + b) else if c = -2 then wI (a - b) else if c = -3 then wI (a * b) else if c = -4 then (if a < b then 1 else 0) else if c = -5 then (if a = b then 1 else 0) else if c = -6 then (if a ≠ 0 ∧ b ≠ 0 then 1 else 0) else (if a ≠ 0 ∨ b ≠ 0 then 1 else 0)
def notZ (a : Int) : Int := if a = 0 then 1 else 0
def op3 (t : Int) : Int := if t = 42 then -3 else 0
def op2 (t : Int) : Int := if t = 43 then -1 else if t = 45 then -2 else 0
def op6 (t : Int) : Int := if t = 264 then -6 else 0
def op7 (t : Int) : Int := if t = 263 then -7 else 0
section Rd
variable (B : Int → Int) (n : Int)
def un1 (f : pT → pE) (c : Int) (g : Int → Int) (x : pT) : pE := eb (eb (adv B n x) f) fun z => .ok (emt c (fun nm => g (pv z nm)) z)
def bn1 (f : pT → pE) (c : Int) (x : pT) : pE := eb (eb (adv B n x) f) fun z => .ok (emt c (fun nm => binZ c (pv x nm) (pv z nm)) z)
def lp (f : pT → pE) (op : Int → Int) : Nat → pT → pE
  | 0, x => .ok x
  | m + 1, x => if op (ptk x) = 0 then .ok x else eb (bn1 B n f (op (ptk x)) x) (lp f op m)
def trmF (o : pT → pE) (x : pT) : pE := eb (o x) (lp B n o op3 160)
def smF (o : pT → pE) (x : pT) : pE := eb (trmF B n o x) (lp B n (trmF B n o) op2 160)
def cmF (o : pT → pE) (y : pT) : pE := if ptk y = 60 then bn1 B n (smF B n o) (-4) y else if ptk y = 61 then bn1 B n (smF B n o) (-5) y else .ok y
def negF (o : pT → pE) (g : Option (pT → pE)) (x : pT) : pE := if ptk x = 265 then (match g with | none => .error (pat x) | some h => un1 B n h (-8) notZ x) else eb (smF B n o x) (cmF B n o)
def bthF (g : pT → pE) (x : pT) : pE := eb (g x) (lp B n g op6 160)
def ethF (g : pT → pE) (x : pT) : pE := eb (bthF B n g x) (lp B n (bthF B n g) op7 160)
def onN (x : pT) : pE := adv B n (emt (if ptk x = 256 then pvl x else 10000 + pvl x) (fun nm => if ptk x = 256 then pvl x else nm (pvl x)) x)
def oneF (q : Option ((pT → pE) × (pT → pE))) (x : pT) : pE := if ptk x = 256 ∨ ptk x = 257 then onN B n x else match q with
  | none => .error (pat x)
  | some (o, e) => if ptk x = 45 then un1 B n o (-9) (fun a => wI (-a)) x else if ptk x = 40 then eb (eb (adv B n x) e) (expc B n 41) else .error (pat x)
def pLv : Nat → (pT → pE) × (pT → pE)
  | 0 => (oneF B n none, negF B n (oneF B n none) none)
  | k + 1 => (oneF B n (some ((pLv k).1, ethF B n (pLv k).2)), negF B n (oneF B n (some ((pLv k).1, ethF B n (pLv k).2))) (some (pLv k).2))
def eth5 (x : pT) : pE := ethF B n (pLv B n 5).2 x
def rd0 : pE := adv B n (0, 0, 0, 0, [], fun _ => 0)
def rdZ (p : pE) (k : Int) : pE := eb (eb p (expc B n (260 + k))) (eth5 B n)
def rdW (p : pE) (k : Int) : pE := eb (rdZ B n p k) (expc B n 59)
def rd1 : pE := rdW B n (rd0 B n) 0
def rd2 : pE := rdW B n (rd1 B n) 1
def rd3 : pE := rdW B n (rd2 B n) 2
def rdE (x : pT) : pE := if ptk x = 258 then .ok x else .error (pat x)
def rdF : pE := eb (rd3 B n) rdE
end Rd
/-! the steps of code -/
def stp (nm : Int → Int) (c : Int) (q : Int × (Int → Int)) : Int × (Int → Int) :=
  if 0 ≤ c then (if 160 ≤ q.1 then q else (q.1 + 1, updI q.2 q.1 (if 10000 ≤ c ∧ c < 10006 then nm (c - 10000) else c)))
  else if c = -8 then (if q.1 - 1 < 0 then q else (q.1, updI q.2 (q.1 - 1) (notZ (q.2 (q.1 - 1)))))
  else if c = -9 then (if q.1 - 1 < 0 then q else (q.1, updI q.2 (q.1 - 1) (wI (-(q.2 (q.1 - 1))))))
  else (if q.1 - 2 < 0 then q else (q.1 - 1, updI q.2 (q.1 - 2) (binZ c (q.2 (q.1 - 2)) (q.2 (q.1 - 1)))))
def fst (nm : Int → Int) (s : List Int) (q : Int × (Int → Int)) : Int × (Int → Int) := s.foldl (fun q c => stp nm c q) q
def Sg (s : List Int) (v : pV) : Prop := ∀ (nm : Int → Int) (t : Int) (k : Int → Int), 0 ≤ t → t + s.length ≤ 160 → ∃ k', fst nm s (t, k) = (t + 1, k') ∧ k' t = v nm ∧ ∀ j, j < t → k' j = k j
theorem fst_app {nm : Int → Int} {a b : List Int} {q : Int × (Int → Int)} : fst nm (a ++ b) q = fst nm b (fst nm a q) := List.foldl_append
theorem updI_eq {f : Int → Int} {w e : Int} : updI f w e w = e := if_pos rfl
theorem updI_ne {f : Int → Int} {w e x : Int} (h : x ≠ w) : updI f w e x = f x := if_neg h
theorem Sg_num {c : Int} (h : 0 ≤ c) : Sg [c] (fun nm => if 10000 ≤ c ∧ c < 10006 then nm (c - 10000) else c) := by
  intro nm t k h0 h1
  have h1 : t + 1 ≤ 160 := h1
  refine ⟨_, (if_pos h).trans (if_neg (show ¬ 160 ≤ t by omega)), updI_eq, fun j hj => updI_ne (by show j ≠ t; omega)⟩
theorem Sg_bin {a b : List Int} {u v : pV} {c : Int} (ha : Sg a u) (hb : Sg b v) (h1 : -7 ≤ c) (h2 : c ≤ -1) : Sg (a ++ (b ++ [c])) (fun nm => binZ c (u nm) (v nm)) := by
  intro nm t k h0 hl
  simp only [List.length_append, List.length_cons, List.length_nil] at hl
  obtain ⟨k1, e1, v1, f1⟩ := ha nm t k h0 (by omega)
  obtain ⟨k2, e2, v2, f2⟩ := hb nm (t + 1) k1 (by omega) (by omega)
  refine ⟨updI k2 t (binZ c (u nm) (v nm)), ?_, updI_eq, fun j hj => ?_⟩
  · rw [fst_app, e1, fst_app, e2]
    show stp nm c (t + 1 + 1, k2) = _
    unfold stp
    rw [if_neg (by omega), if_neg (by omega), if_neg (by omega), if_neg (by show ¬ t + 1 + 1 - 2 < 0; omega)]
    show (t + 1 + 1 - 1, updI k2 (t + 1 + 1 - 2) (binZ c (k2 (t + 1 + 1 - 2)) (k2 (t + 1 + 1 - 1)))) = _
    rw [show t + 1 + 1 - 2 = t by omega, show t + 1 + 1 - 1 = t + 1 by omega, v2, f2 t (by omega), v1]
  · rw [updI_ne (by omega), f2 j (by omega), f1 j hj]
theorem Sg_un {a : List Int} {u : pV} {c : Int} {g : Int → Int} (ha : Sg a u) (hc : (c = -8 ∧ g = notZ) ∨ (c = -9 ∧ g = fun a => wI (-a))) : Sg (a ++ [c]) (fun nm => g (u nm)) := by
  intro nm t k h0 hl
  simp only [List.length_append, List.length_cons, List.length_nil] at hl
  obtain ⟨k1, e1, v1, f1⟩ := ha nm t k h0 (by omega)
  refine ⟨updI k1 t (g (u nm)), ?_, updI_eq, fun j hj => ?_⟩
  · rw [fst_app, e1]
    show stp nm c (t + 1, k1) = _
    unfold stp
    rcases hc with ⟨e, eg⟩ | ⟨e, eg⟩
    · rw [if_neg (by omega), if_pos e, if_neg (by show ¬ t + 1 - 1 < 0; omega)]
      show (t + 1, updI k1 (t + 1 - 1) (notZ (k1 (t + 1 - 1)))) = _
      rw [show t + 1 - 1 = t by omega, v1, eg]
    · rw [if_neg (by omega), if_neg (by omega), if_pos e, if_neg (by show ¬ t + 1 - 1 < 0; omega)]
      show (t + 1, updI k1 (t + 1 - 1) (wI (-(k1 (t + 1 - 1))))) = _
      rw [show t + 1 - 1 = t by omega, v1, eg]
  · rw [updI_ne (by omega), f1 j hj]
def WfT (n : Int) (x : pT) : Prop := 0 ≤ pat x ∧ pat x ≤ n ∧ (ptk x ≠ 258 → pat x < pnx x ∧ pnx x ≤ n) ∧ (ptk x = 256 → 0 ≤ pvl x ∧ pvl x ≤ 9999) ∧ (ptk x = 257 → 0 ≤ pvl x ∧ pvl x ≤ 5) ∧ ((pcd x).length : Int) ≤ pat x ∧ (ptk x ≠ 259)
def Ge (n : Int) (x y : pT) : Prop := WfT n y ∧ ∃ s, pcd y = pcd x ++ s ∧ (s.length : Int) ≤ pat y - pat x ∧ Sg s (pv y)
def Gd (n : Int) (f : pT → pE) : Prop := ∀ x y, WfT n x → f x = .ok y → Ge n x y
section Good
variable {B : Int → Int} {n : Int}
theorem adv_wf {x y : pT} (h0 : 0 ≤ pnx x) (hx : pnx x ≤ n) (hl : ((pcd x).length : Int) ≤ pnx x) (h : adv B n x = .ok y) : WfT n y ∧ pnx x ≤ pat y ∧ pcd y = pcd x ∧ pv y = pv x := by
  unfold adv at h
  obtain ⟨⟨h1, h2⟩, h3, h4, h5⟩ := lex_wf (B := B) hx
  split at h
  · cases h
  · next hne =>
    cases h
    exact ⟨⟨by show 0 ≤ (lex B n (pnx x)).1; omega, h2, fun q => h3 q hne, h4, h5, Int.le_trans hl h1, hne⟩, h1, rfl, rfl⟩
theorem adv_ok {x y : pT} (hx : WfT n x) (ht : ptk x ≠ 258) (h : adv B n x = .ok y) : WfT n y ∧ pat x + 1 ≤ pat y ∧ pcd y = pcd x ∧ pv y = pv x := by
  obtain ⟨a1, a2, a3, a4, a5, a6, a7⟩ := hx
  have a3 := a3 ht
  obtain ⟨b1, b2, b3, b4⟩ := adv_wf (by omega) a3.2 (by omega) h
  exact ⟨b1, by omega, b3, b4⟩
theorem expc_ok {w : Int} {x y : pT} (hw : w ≠ 258) (hx : WfT n x) (h : expc B n w x = .ok y) : WfT n y ∧ pat x + 1 ≤ pat y ∧ pcd y = pcd x ∧ pv y = pv x := by
  unfold expc at h
  split at h
  · next e => exact adv_ok hx (by rw [e]; exact hw) h
  · cases h
theorem emt_len {c : Int} {v : pV} {x : pT} : ((pcd (emt c v x)).length : Int) = (pcd x).length + 1 := by
  show (((pcd x ++ [c]).length : Nat) : Int) = _
  rw [List.length_append]; rfl
theorem emt_wf {c : Int} {v : pV} {x : pT} (hx : WfT n x) (hl : ((pcd x).length : Int) + 1 ≤ pat x) : WfT n (emt c v x) := by
  obtain ⟨a1, a2, a3, a4, a5, a6, a7⟩ := hx
  exact ⟨a1, a2, a3, a4, a5, by rw [emt_len]; exact hl, a7⟩
theorem Ge.len {x y : pT} (h : Ge n x y) : ((pcd y).length : Int) - (pcd x).length ≤ pat y - pat x := by
  obtain ⟨-, s, h1, h2, -⟩ := h
  rw [h1, List.length_append]; omega
/-- ahead of an emission there is room -/
theorem sub_room {f : pT → pE} (hf : Gd n f) {x z : pT} (hx : WfT n x) (ht : ptk x ≠ 258) (h : eb (adv B n x) f = .ok z) : WfT n z ∧ ((pcd z).length : Int) + 1 ≤ pat z ∧ pat x + 1 ≤ pat z ∧ ∃ s, pcd z = pcd x ++ s ∧ (s.length : Int) + 1 ≤ pat z - pat x ∧ Sg s (pv z) := by
  obtain ⟨y, h1, h2⟩ := eb_inv h
  obtain ⟨y1, y2, y3, y4⟩ := adv_ok hx ht h1
  obtain ⟨z1, s, z2, z3, z4⟩ := hf y z y1 h2
  have hl : ((pcd z).length : Int) = (pcd x).length + s.length := by rw [z2, y3, List.length_append]; omega
  have := hx.2.2.2.2.2.1
  exact ⟨z1, by omega, by omega, s, by rw [z2, y3], by omega, z4⟩
theorem un1_gd {f : pT → pE} (hf : Gd n f) {c : Int} {g : Int → Int} (hc : (c = -8 ∧ g = notZ) ∨ (c = -9 ∧ g = fun a => wI (-a))) {x y : pT} (hx : WfT n x) (ht : ptk x ≠ 258) (h : un1 B n f c g x = .ok y) : Ge n x y := by
  obtain ⟨z, h1, h2⟩ := eb_inv h
  obtain ⟨z1, z2, z5, s, z3, z4, z6⟩ := sub_room hf hx ht h1
  cases h2
  refine ⟨emt_wf z1 z2, s ++ [c], ?_, ?_, Sg_un z6 hc⟩
  · show pcd z ++ [c] = _
    rw [z3, List.append_assoc]
  · rw [List.length_append]
    show ((s.length + 1 : Nat) : Int) ≤ pat z - pat x
    omega
theorem bn1_ge {f : pT → pE} (hf : Gd n f) {c : Int} (h1 : -7 ≤ c) (h2 : c ≤ -1) {x0 x y : pT} (hx : Ge n x0 x) (ht : ptk x ≠ 258) (h : bn1 B n f c x = .ok y) : Ge n x0 y := by
  obtain ⟨z, g1, g2⟩ := eb_inv h
  obtain ⟨w1, s, w2, w3, w4⟩ := hx
  obtain ⟨z1, z2, z5, r, z3, z4, z6⟩ := sub_room hf w1 ht g1
  cases g2
  refine ⟨emt_wf z1 z2, s ++ (r ++ [c]), ?_, ?_, Sg_bin w4 z6 h1 h2⟩
  · show pcd z ++ [c] = _
    rw [z3, w2]; simp only [List.append_assoc]
  · rw [List.length_append, List.length_append]
    show ((s.length + (r.length + 1) : Nat) : Int) ≤ pat z - pat x0
    omega
def opO (op : Int → Int) : Prop := ∀ t, op t ≠ 0 → (-7 ≤ op t ∧ op t ≤ -1) ∧ t ≠ 258 ∧ t ≠ 259
theorem opO_3 : opO op3 := fun t h => by unfold op3 at *; by_cases q : t = 42 <;> simp [q] at h ⊢
theorem opO_2 : opO op2 := fun t h => by unfold op2 at *; by_cases q : t = 43 <;> by_cases r : t = 45 <;> simp [q, r] at h ⊢
theorem opO_6 : opO op6 := fun t h => by unfold op6 at *; by_cases q : t = 264 <;> simp [q] at h ⊢
theorem opO_7 : opO op7 := fun t h => by unfold op7 at *; by_cases q : t = 263 <;> simp [q] at h ⊢
theorem lp_ge {f : pT → pE} (hf : Gd n f) {op : Int → Int} (ho : opO op) {x0 : pT} : ∀ (m : Nat) {x y : pT}, Ge n x0 x → lp B n f op m x = .ok y → Ge n x0 y
  | 0, x, y, hx, h => by cases h; exact hx
  | m + 1, x, y, hx, h => by
    unfold lp at h
    split at h
    · cases h; exact hx
    · next hne =>
      obtain ⟨z, h1, h2⟩ := eb_inv h
      obtain ⟨o1, o2, o3⟩ := ho _ hne
      exact lp_ge hf ho m (bn1_ge hf o1.1 o1.2 hx o2 h1) h2
theorem lp_gd {f g : pT → pE} (hg : Gd n g) (hf : Gd n f) {op : Int → Int} (ho : opO op) {m : Nat} : Gd n (fun x => eb (g x) (lp B n f op m)) := fun x y hx h => by
  obtain ⟨z, h1, h2⟩ := eb_inv h
  exact lp_ge hf ho m (hg x z hx h1) h2
theorem trm_gd {o : pT → pE} (h : Gd n o) : Gd n (trmF B n o) := lp_gd h h opO_3
theorem sm_gd {o : pT → pE} (h : Gd n o) : Gd n (smF B n o) := lp_gd (trm_gd h) (trm_gd h) opO_2
theorem neg_gd {o : pT → pE} (h : Gd n o) {g : Option (pT → pE)} (hg : ∀ f, g = some f → Gd n f) : Gd n (negF B n o g) := fun x y hx hh => by
  unfold negF at hh
  split at hh
  · next e =>
    cases g with
    | none => cases hh
    | some f => exact un1_gd (hg f rfl) (Or.inl ⟨rfl, rfl⟩) hx (by rw [e]; decide) hh
  · obtain ⟨z, h1, h2⟩ := eb_inv hh
    have hz := sm_gd h x z hx h1
    unfold cmF at h2
    split at h2
    · next e => exact bn1_ge (sm_gd h) (by decide) (by decide) hz (by rw [e]; decide) h2
    · split at h2
      · next e => exact bn1_ge (sm_gd h) (by decide) (by decide) hz (by rw [e]; decide) h2
      · cases h2; exact hz
theorem bth_gd {g : pT → pE} (h : Gd n g) : Gd n (bthF B n g) := lp_gd h h opO_6
theorem eth_gd {g : pT → pE} (h : Gd n g) : Gd n (ethF B n g) := lp_gd (bth_gd h) (bth_gd h) opO_7
theorem onN_gd {x y : pT} (hx : WfT n x) (ht : ptk x = 256 ∨ ptk x = 257) (h : onN B n x = .ok y) : Ge n x y := by
  obtain ⟨a1, a2, a3, a4, a5, a6, a7⟩ := hx
  have a3 := a3 (by omega)
  unfold onN at h
  obtain ⟨b1, b2, b3, b4⟩ := adv_wf (x := emt _ _ x) (by show 0 ≤ pnx x; omega) a3.2 (by rw [emt_len]; show _ ≤ pnx x; omega) h
  have b2 : pnx x ≤ pat y := b2
  refine ⟨b1, _, b3, by show ((1 : Nat) : Int) ≤ pat y - pat x; omega, ?_⟩
  rw [b4]
  rcases ht with e | e
  · have := a4 e
    have hs := Sg_num (c := pvl x) (by omega)
    rw [if_pos e]
    show Sg _ (fun nm => if ptk x = 256 then pvl x else nm (pvl x))
    rw [show (fun nm : Int → Int => if ptk x = 256 then pvl x else nm (pvl x)) = (fun nm => if 10000 ≤ pvl x ∧ pvl x < 10006 then nm (pvl x - 10000) else pvl x) from by funext nm; rw [if_pos e, if_neg (by omega)]]
    exact hs
  · have := a5 e
    have hs := Sg_num (c := 10000 + pvl x) (by omega)
    rw [if_neg (by omega)]
    show Sg _ (fun nm => if ptk x = 256 then pvl x else nm (pvl x))
    rw [show (fun nm : Int → Int => if ptk x = 256 then pvl x else nm (pvl x)) = (fun nm => if 10000 ≤ 10000 + pvl x ∧ 10000 + pvl x < 10006 then nm (10000 + pvl x - 10000) else 10000 + pvl x) from by funext nm; rw [if_neg (by omega), if_pos (by omega), show 10000 + pvl x - 10000 = pvl x by omega]]
    exact hs
theorem one_gd {q : Option ((pT → pE) × (pT → pE))} (hq : ∀ o e, q = some (o, e) → Gd n o ∧ Gd n e) : Gd n (oneF B n q) := fun x y hx h => by
  unfold oneF at h
  split at h
  · next e => exact onN_gd hx e h
  · next hne =>
    cases q with
    | none => cases h
    | some p =>
      obtain ⟨o, e⟩ := p
      obtain ⟨ho, he⟩ := hq o e rfl
      simp only at h
      split at h
      · next ht => exact un1_gd ho (Or.inr ⟨rfl, rfl⟩) hx (by rw [ht]; decide) h
      · split at h
        · next ht =>
          obtain ⟨z, h1, h2⟩ := eb_inv h
          obtain ⟨z1, z2, z5, s, z3, z4, z6⟩ := sub_room he hx (by rw [ht]; decide) h1
          obtain ⟨y1, y2, y3, y4⟩ := expc_ok (by decide) z1 h2
          exact ⟨y1, s, by rw [y3, z3], by omega, by rw [y4]; exact z6⟩
        · cases h
theorem pLv_gd : ∀ k, Gd n (pLv B n k).1 ∧ Gd n (pLv B n k).2
  | 0 => ⟨one_gd (fun o e h => by cases h), neg_gd (one_gd (fun o e h => by cases h)) (fun f h => by cases h)⟩
  | k + 1 => by
    have ih := pLv_gd k
    have h1 : Gd n (pLv B n (k + 1)).1 := one_gd (fun o e h => by cases h; exact ⟨ih.1, eth_gd ih.2⟩)
    exact ⟨h1, neg_gd h1 (fun f h => by cases h; exact ih.2)⟩
theorem eth5_gd : Gd n (eth5 B n) := eth_gd (pLv_gd 5).2
theorem rd0_wf {x : pT} (hn : 0 ≤ n) (h : rd0 B n = .ok x) : WfT n x ∧ pcd x = [] := by
  obtain ⟨b1, b2, b3, b4⟩ := adv_wf (Int.le_refl 0) hn (by decide) h
  exact ⟨b1, b3⟩
theorem rdW_wf {p : pE} {k : Int} (hk : k ≠ -2) {x : pT} (h : rdW B n p k = .ok x) (hp : ∀ y, p = .ok y → WfT n y) : ∃ y z, p = .ok y ∧ rdZ B n p k = .ok z ∧ WfT n y ∧ WfT n z ∧ WfT n x ∧ pcd x = pcd z ∧ ∃ s, pcd z = pcd y ++ s ∧ Sg s (pv z) := by
  obtain ⟨z, h1, h2⟩ := eb_inv h
  obtain ⟨u, h3, h4⟩ := eb_inv h1
  obtain ⟨y, h5, h6⟩ := eb_inv h3
  obtain ⟨u1, u2, u3, u4⟩ := expc_ok (by omega) (hp y h5) h6
  obtain ⟨z1, s, z2, z3, z4⟩ := eth5_gd u z u1 h4
  obtain ⟨x1, x2, x3, x4⟩ := expc_ok (by decide) z1 h2
  exact ⟨y, z, h5, h1, hp y h5, z1, x1, x3, s, by rw [z2, u3], z4⟩
end Good
