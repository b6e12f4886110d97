/-! rows for loops -/
def forgets : List Value → List Value → Prop
  | [], [] => True
  | v :: L, w :: L' => (w = v ∨ w = .null) ∧ forgets L L'
  | _, _ => False
theorem forgets_len : ∀ {L L' : List Value}, forgets L L' → L'.length = L.length
  | [], [], _ => rfl
  | _ :: _, _ :: _, h => by simp [forgets_len h.2]
  | [], _ :: _, h => h.elim
  | _ :: _, [], h => h.elim
theorem forgets_at : ∀ {L L' : List Value}, forgets L L' → ∀ (i : Nat) (v : Value), L'[i]? = some v → v ≠ .null → L[i]? = some v
  | [], [], _, i, v, h, _ => by simp at h
  | a :: L, b :: L', h, 0, v, hv, hn => by
    simp only [List.getElem?_cons_zero, Option.some.injEq] at hv ⊢
    rcases h.1 with e | e
    · rw [← e]; exact hv
    · exact absurd (hv ▸ e) hn
  | a :: L, b :: L', h, i + 1, v, hv, hn => by
    simp only [List.getElem?_cons_succ] at hv ⊢
    exact forgets_at h.2 i v hv hn
  | [], _ :: _, h, _, _, _, _ => h.elim
  | _ :: _, [], h, _, _, _, _ => h.elim
theorem f_forget {X : fX} {y : fY} {Z : fZ} {pc : Nat} {L L' st : List Value} {M : fM} (h : forgets L L') (k : fG X y Z pc L' st M) : fG X y Z pc L st M := fun hm hn H locs ls hl hp hs =>
  k hm ((forgets_len h).trans hn) H locs ls ⟨hl.1, hl.2.1, fun i v hi hv => hl.2.2 i v (forgets_at h i v hi hv) hv⟩ hp hs
def sumN (f : Int → Int) : Nat → Int
  | 0 => 0
  | k + 1 => sumN f k + f k
def sumZ (f : Int → Int) (w : Int) : Int := sumN f w.toNat
theorem sumZ_0 (f : Int → Int) : sumZ f 0 = 0 := rfl
theorem sumZ_succ (f : Int → Int) {w : Int} (h : 0 ≤ w) : sumZ f (w + 1) = sumZ f w + f w := by
  unfold sumZ
  rw [show (w + 1).toNat = w.toNat + 1 by omega]
  show sumN f w.toNat + f (w.toNat : Int) = _
  rw [Int.toNat_of_nonneg h]
theorem sumN_bd {f : Int → Int} {a b : Int} (ha : a ≤ 0) (hb : 0 ≤ b) : ∀ (n : Nat), (∀ i : Int, 0 ≤ i → i < n → a ≤ f i ∧ f i ≤ b) → a * n ≤ sumN f n ∧ sumN f n ≤ b * n
  | 0, _ => by simp [sumN]
  | n + 1, h => by
    have ih := sumN_bd ha hb n (fun i h0 h1 => h i h0 (by omega))
    have h2 := h n (by omega) (by omega)
    show a * ((n + 1 : Nat) : Int) ≤ sumN f n + f n ∧ sumN f n + f n ≤ b * ((n + 1 : Nat) : Int)
    rw [show ((n + 1 : Nat) : Int) = (n : Int) + 1 by omega, Int.mul_add, Int.mul_add]
    omega
theorem sumZ_bd {f : Int → Int} {a b w : Int} (ha : a ≤ 0) (hb : 0 ≤ b) (hw : 0 ≤ w) (h : ∀ i : Int, 0 ≤ i → i < w → a ≤ f i ∧ f i ≤ b) : a * w ≤ sumZ f w ∧ sumZ f w ≤ b * w := by
  have := sumN_bd ha hb w.toNat (fun i h0 h1 => h i h0 (by omega))
  rw [Int.toNat_of_nonneg hw] at this
  exact this
theorem sumZ_congr {f g : Int → Int} : ∀ {w : Int}, (∀ i : Int, 0 ≤ i → i < w → f i = g i) → sumZ f w = sumZ g w := by
  intro w h
  unfold sumZ
  have : ∀ n : Nat, (n : Int) ≤ w.toNat → sumN f n = sumN g n := by
    intro n
    induction n with
    | zero => intro _; rfl
    | succ n ih =>
      intro hn
      show sumN f n + f n = sumN g n + g n
      rw [ih (by omega), h n (by omega) (by omega)]
  exact this _ (by omega)
