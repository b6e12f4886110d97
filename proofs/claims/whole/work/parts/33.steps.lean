abbrev pV : Type := (Int → Int) → Int
def wI (a : Int) : Int := (iv a).toInt
def binZ (c a b : Int) : Int := if c = -1 then wI (a + b) else if c = -2 then wI (a - b) else if c = -3 then wI (a * b) else if c = -4 then (if a < b then 1 else 0) else if c = -5 then (if a = b then 1 else 0) else if c = -6 then (if a ≠ 0 ∧ b ≠ 0 then 1 else 0) else (if a ≠ 0 ∨ b ≠ 0 then 1 else 0)
def notZ (a : Int) : Int := if a = 0 then 1 else 0
/-! the steps of code -/
def stp (nm : Int → Int) (c : Int) (q : Int × (Int → Int)) : Int × (Int → Int) :=
  if 0 ≤ c then (if 160 ≤ q.1 then q else (q.1 + 1, updI q.2 q.1 (if 10000 ≤ c ∧ c < 10006 then nm (c - 10000) else c)))
  else if c = -8 then (if q.1 - 1 < 0 then q else (q.1, updI q.2 (q.1 - 1) (notZ (q.2 (q.1 - 1)))))
  else if c = -9 then (if q.1 - 1 < 0 then q else (q.1, updI q.2 (q.1 - 1) (wI (-(q.2 (q.1 - 1))))))
  else (if q.1 - 2 < 0 then q else (q.1 - 1, updI q.2 (q.1 - 2) (binZ c (q.2 (q.1 - 2)) (q.2 (q.1 - 1)))))
def fst (nm : Int → Int) (s : List Int) (q : Int × (Int → Int)) : Int × (Int → Int) := s.foldl (fun q c => stp nm c q) q
def Sg (s : List Int) (v : pV) : Prop := ∀ (nm : Int → Int) (t : Int) (k : Int → Int), 0 ≤ t → t + s.length ≤ 160 → ∃ k', fst nm s (t, k) = (t + 1, k') ∧ k' t = v nm ∧ ∀ j, j < t → k' j = k j
theorem fst_app {nm : Int → Int} {a b : List Int} {q : Int × (Int → Int)} : fst nm (a ++ b) q = fst nm b (fst nm a q) := List.foldl_append
theorem updI_eq {f : Int → Int} {w e : Int} : updI f w e w = e := if_pos rfl
theorem updI_ne {f : Int → Int} {w e x : Int} (h : x ≠ w) : updI f w e x = f x := if_neg h
theorem Sg_num {c : Int} (h : 0 ≤ c) : Sg [c] (fun nm => if 10000 ≤ c ∧ c < 10006 then nm (c - 10000) else c) := by
  intro nm t k h0 h1
  have h1 : t + 1 ≤ 160 := h1
  refine ⟨_, (if_pos h).trans (if_neg (show ¬ 160 ≤ t by omega)), updI_eq, fun j hj => updI_ne (by show j ≠ t; omega)⟩
theorem Sg_bin {a b : List Int} {u v : pV} {c : Int} (ha : Sg a u) (hb : Sg b v) (h1 : -7 ≤ c) (h2 : c ≤ -1) : Sg (a ++ (b ++ [c])) (fun nm => binZ c (u nm) (v nm)) := by
  intro nm t k h0 hl
  simp only [List.length_append, List.length_cons, List.length_nil] at hl
  obtain ⟨k1, e1, v1, f1⟩ := ha nm t k h0 (by omega)
  obtain ⟨k2, e2, v2, f2⟩ := hb nm (t + 1) k1 (by omega) (by omega)
  refine ⟨updI k2 t (binZ c (u nm) (v nm)), ?_, updI_eq, fun j hj => ?_⟩
  · rw [fst_app, e1, fst_app, e2]
    show stp nm c (t + 1 + 1, k2) = _
    unfold stp
    rw [if_neg (by omega), if_neg (by omega), if_neg (by omega), if_neg (by show ¬ t + 1 + 1 - 2 < 0; omega)]
    show (t + 1 + 1 - 1, updI k2 (t + 1 + 1 - 2) (binZ c (k2 (t + 1 + 1 - 2)) (k2 (t + 1 + 1 - 1)))) = _
    rw [show t + 1 + 1 - 2 = t by omega, show t + 1 + 1 - 1 = t + 1 by omega, v2, f2 t (by omega), v1]
  · rw [updI_ne (by omega), f2 j (by omega), f1 j hj]
theorem Sg_un {a : List Int} {u : pV} {c : Int} {g : Int → Int} (ha : Sg a u) (hc : (c = -8 ∧ g = notZ) ∨ (c = -9 ∧ g = fun a => wI (-a))) : Sg (a ++ [c]) (fun nm => g (u nm)) := by
  intro nm t k h0 hl
  simp only [List.length_append, List.length_cons, List.length_nil] at hl
  obtain ⟨k1, e1, v1, f1⟩ := ha nm t k h0 (by omega)
  refine ⟨updI k1 t (g (u nm)), ?_, updI_eq, fun j hj => ?_⟩
  · rw [fst_app, e1]
    show stp nm c (t + 1, k1) = _
    unfold stp
    rcases hc with ⟨e, eg⟩ | ⟨e, eg⟩
    · rw [if_neg (by omega), if_pos e, if_neg (by show ¬ t + 1 - 1 < 0; omega)]
      show (t + 1, updI k1 (t + 1 - 1) (notZ (k1 (t + 1 - 1)))) = _
      rw [show t + 1 - 1 = t by omega, v1, eg]
    · rw [if_neg (by omega), if_neg (by omega), if_pos e, if_neg (by show ¬ t + 1 - 1 < 0; omega)]
      show (t + 1, updI k1 (t + 1 - 1) (wI (-(k1 (t + 1 - 1))))) = _
      rw [show t + 1 - 1 = t by omega, v1, eg]
  · rw [updI_ne (by omega), f1 j hj]

