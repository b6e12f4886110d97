/-! THE LEAST of notes, place by place: b is the least of a and of the keys of the notes of S whose span is x -/
def Lst (S : sN → Prop) (key : sN → Int) (x a b : Int) : Prop := (b = a ∨ ∃ n, S n ∧ n.1 = x ∧ b = key n) ∧ b ≤ a ∧ ∀ n, S n → n.1 = x → b ≤ key n
theorem Lst.id {S : sN → Prop} {key : sN → Int} {x a : Int} (h : ∀ n, S n → n.1 = x → False) : Lst S key x a a := ⟨Or.inl rfl, Int.le_refl _, fun n h1 h2 => (h n h1 h2).elim⟩
theorem Lst.comp {S1 S2 S : sN → Prop} {key : sN → Int} {x a b c : Int} (hS : ∀ n, S n ↔ S1 n ∨ S2 n) (h1 : Lst S1 key x a b) (h2 : Lst S2 key x b c) : Lst S key x a c := by
  obtain ⟨p1, q1, r1⟩ := h1
  obtain ⟨p2, q2, r2⟩ := h2
  refine ⟨?_, Int.le_trans q2 q1, fun n hn hx => ?_⟩
  · rcases p2 with rfl | ⟨n, a1, a2, a3⟩
    · rcases p1 with rfl | ⟨n, a1, a2, a3⟩
      · exact Or.inl rfl
      · exact Or.inr ⟨n, (hS n).mpr (Or.inl a1), a2, a3⟩
    · exact Or.inr ⟨n, (hS n).mpr (Or.inr a1), a2, a3⟩
  · rcases (hS n).mp hn with h | h
    · exact Int.le_trans q2 (r1 n h hx)
    · exact r2 n h hx
theorem Lst.congr {S S' : sN → Prop} {key : sN → Int} {x a b : Int} (hS : ∀ n, S' n ↔ S n) (h : Lst S key x a b) : Lst S' key x a b := by
  obtain ⟨p, q, r⟩ := h
  exact ⟨p.imp (fun h => h) (fun ⟨n, a1, a2⟩ => ⟨n, (hS n).mpr a1, a2⟩), q, fun n hn => r n ((hS n).mp hn)⟩
theorem Lst.one {n0 : sN} {key : sN → Int} {x a b : Int} (h1 : x = n0.1 → b = min a (key n0)) (h2 : x ≠ n0.1 → b = a) : Lst (fun n => n = n0) key x a b := by
  by_cases hx : x = n0.1
  · have e := h1 hx
    refine ⟨?_, by omega, fun n hn _ => by rw [hn]; omega⟩
    by_cases q : a ≤ key n0
    · exact Or.inl (by omega)
    · exact Or.inr ⟨n0, rfl, hx.symm, by omega⟩
  · rw [h2 hx]
    exact Lst.id (fun n hn hq => hx (by rw [← hq, hn]))
/-- the least is one number -/
theorem Lst.uniq {S : sN → Prop} {key : sN → Int} {x a b c : Int} (h1 : Lst S key x a b) (h2 : Lst S key x a c) : b = c := by
  obtain ⟨p1, q1, r1⟩ := h1
  obtain ⟨p2, q2, r2⟩ := h2
  have le1 : b ≤ c := by
    rcases p2 with rfl | ⟨n, a1, a2, rfl⟩
    · exact q1
    · exact r1 n a1 a2
  have le2 : c ≤ b := by
    rcases p1 with rfl | ⟨n, a1, a2, rfl⟩
    · exact q2
    · exact r2 n a1 a2
  omega
/-- two sets of which each note of the one has one as good in the other give the same least -/
theorem Lst.same {S S' : sN → Prop} {key : sN → Int} {x a b : Int} (h1 : ∀ n, S n → n.1 = x → ∃ n', S' n' ∧ n'.1 = x ∧ key n' ≤ key n) (h2 : ∀ n, S' n → n.1 = x → ∃ n', S n' ∧ n'.1 = x ∧ key n' ≤ key n) (h : Lst S key x a b) : Lst S' key x a b := by
  obtain ⟨p, q, r⟩ := h
  have hr : ∀ n, S' n → n.1 = x → b ≤ key n := fun n hn hx => by
    obtain ⟨n', a1, a2, a3⟩ := h2 n hn hx
    exact Int.le_trans (r n' a1 a2) a3
  refine ⟨?_, q, hr⟩
  rcases p with rfl | ⟨n, a1, a2, a3⟩
  · exact Or.inl rfl
  · obtain ⟨n', b1, b2, b3⟩ := h1 n a1 a2
    exact Or.inr ⟨n', b1, b2, by have := hr n' b1 b2; omega⟩
/-- which differences stand: b is 1 if a was, or if a note of S has an event (or the beginning) so far ahead -/
def Apt (S : sN → Prop) (x a b : Int) : Prop := (b = 1 ∨ b = a) ∧ (b = 1 ↔ a = 1 ∨ ∃ n, S n ∧ ∃ u, u ∈ n.2.2.2.2 ∧ x = n.1 - u)
theorem Apt.id {S : sN → Prop} {x a : Int} (h : ∀ n, ¬ S n) : Apt S x a a := ⟨Or.inr rfl, ⟨Or.inl, fun h1 => h1.elim (fun q => q) (fun ⟨n, hn, _⟩ => (h n hn).elim)⟩⟩
theorem Apt.comp {S1 S2 S : sN → Prop} {x a b c : Int} (hS : ∀ n, S n ↔ S1 n ∨ S2 n) (h1 : Apt S1 x a b) (h2 : Apt S2 x b c) : Apt S x a c := by
  refine ⟨?_, ⟨fun hc => ?_, fun h => ?_⟩⟩
  · rcases h2.1 with h | h
    · exact Or.inl h
    · rcases h1.1 with g | g
      · exact Or.inl (by omega)
      · exact Or.inr (by omega)
  · rcases h2.2.mp hc with hb | ⟨n, hn, q⟩
    · rcases h1.2.mp hb with ha | ⟨n, hn, q⟩
      · exact Or.inl ha
      · exact Or.inr ⟨n, (hS n).mpr (Or.inl hn), q⟩
    · exact Or.inr ⟨n, (hS n).mpr (Or.inr hn), q⟩
  · rcases h with ha | ⟨n, hn, q⟩
    · exact h2.2.mpr (Or.inl (h1.2.mpr (Or.inl ha)))
    · rcases (hS n).mp hn with g | g
      · exact h2.2.mpr (Or.inl (h1.2.mpr (Or.inr ⟨n, g, q⟩)))
      · exact h2.2.mpr (Or.inr ⟨n, g, q⟩)
theorem Apt.congr {S S' : sN → Prop} {x a b : Int} (hS : ∀ n, S' n ↔ S n) (h : Apt S x a b) : Apt S' x a b := ⟨h.1, ⟨fun q => (h.2.mp q).imp (fun z => z) (fun ⟨n, hn, w⟩ => ⟨n, (hS n).mpr hn, w⟩), fun q => h.2.mpr (q.imp (fun z => z) (fun ⟨n, hn, w⟩ => ⟨n, (hS n).mp hn, w⟩))⟩⟩
