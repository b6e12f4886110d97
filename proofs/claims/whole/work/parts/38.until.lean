/-! an event: what it notes, what is left -/
theorem na42 {M : fM} {dp en : Int} : ∀ k : Nat, (k : Int) ≤ dp → ∀ x, (naM M dp en k 42 x = 1 ∨ naM M dp en k 42 x = M 42 x) ∧ (naM M dp en k 42 x = 1 ↔ M 42 x = 1 ∨ x = en ∨ ∃ j : Int, 0 ≤ j ∧ j < k ∧ x = en - M 47 j)
  | 0, _, x => by
    have e : naM M dp en ((0 : Nat) : Int) 42 x = if x = en then 1 else M 42 x := by
      show up (up M 47 dp en) 42 en 1 42 x = _
      rw [up_app, up_ne (show (42 : Nat) ≠ 47 by decide)]
      by_cases h : x = en
      · rw [if_pos ⟨rfl, h⟩, if_pos h]
      · rw [if_neg (fun q => h q.2), if_neg h]
    rw [e]
    by_cases h : x = en
    · rw [if_pos h]; exact ⟨Or.inl rfl, ⟨fun _ => Or.inr (Or.inl h), fun _ => rfl⟩⟩
    · rw [if_neg h]
      exact ⟨Or.inr rfl, ⟨Or.inl, fun q => q.elim (fun z => z) (fun z => z.elim (fun y => absurd y h) (fun ⟨j, a, b, _⟩ => by omega))⟩⟩
  | k + 1, hk, x => by
    have ih := na42 (M := M) (dp := dp) (en := en) k (by omega) x
    have e : naM M dp en ((k + 1 : Nat) : Int) 42 x = if x = en - M 47 k then 1 else naM M dp en k 42 x := by
      show itMZ (naF en) (up (up M 47 dp en) 42 en 1) ((k : Int) + 1) 42 x = _
      rw [itMZ_succ _ _ (by omega)]
      show up (naM M dp en k) 42 (en - naM M dp en k 47 k) 1 42 x = _
      rw [naM_e (by omega), up_app]
      by_cases h : x = en - M 47 k
      · rw [if_pos ⟨rfl, h⟩, if_pos h]
      · rw [if_neg (fun q => h q.2), if_neg h]
    rw [e]
    by_cases h : x = en - M 47 k
    · rw [if_pos h]; exact ⟨Or.inl rfl, ⟨fun _ => Or.inr (Or.inr ⟨k, by omega, by omega, h⟩), fun _ => rfl⟩⟩
    · rw [if_neg h]
      refine ⟨ih.1, ih.2.trans ⟨fun q => q.imp (fun z => z) (fun z => z.imp (fun y => y) (fun ⟨j, a, b, y⟩ => ⟨j, a, by omega, y⟩)), fun q => q.imp (fun z => z) (fun z => z.imp (fun y => y) (fun ⟨j, a, b, y⟩ => ⟨j, a, ?_, y⟩))⟩⟩
      by_cases hj : j = k
      · subst hj; exact absurd y h
      · omega
theorem note_upd {M : fM} {dp e c f en a b : Int} (hd : 0 ≤ dp) (ha : a = min (M 40 en) (e * 10000 + f)) (hb : b = min (M 41 en) c) : UpdC M (fun n => n = (en, e, c, f, evX M dp.toNat)) (naM (up (up M 40 en a) 41 en b) dp en dp) := fun x x0 x1 => by
  have e40 : naM (up (up M 40 en a) 41 en b) dp en dp 40 x = if x = en then a else M 40 x := by
    rw [naM_c (by decide), up_ne (by decide), up_ne (by decide), up_app]
    by_cases h : x = en
    · rw [if_pos ⟨rfl, h⟩, if_pos h]
    · rw [if_neg (fun q => h q.2), if_neg h]
  have e41 : naM (up (up M 40 en a) 41 en b) dp en dp 41 x = if x = en then b else M 41 x := by
    rw [naM_c (by decide), up_ne (by decide), up_app, up_ne (by decide)]
    by_cases h : x = en
    · rw [if_pos ⟨rfl, h⟩, if_pos h]
    · rw [if_neg (fun q => h q.2), if_neg h]
  have h42 := na42 (M := up (up M 40 en a) 41 en b) (dp := dp) (en := en) dp.toNat (by omega) x
  rw [show ((dp.toNat : Nat) : Int) = dp by omega, up_ne (show (42 : Nat) ≠ 41 by decide), up_ne (show (42 : Nat) ≠ 40 by decide), up_ne (show (47 : Nat) ≠ 41 by decide), up_ne (show (47 : Nat) ≠ 40 by decide)] at h42
  refine ⟨Lst.one (fun h => ?_) (fun h => ?_), Lst.one (fun h => ?_) (fun h => ?_), h42.1, h42.2.trans ?_⟩
  · have h : x = en := h
    rw [e40, if_pos h, ha, h]
  · rw [e40, if_neg h]
  · have h : x = en := h
    rw [e41, if_pos h, hb, h]
  · rw [e41, if_neg h]
  · constructor
    · rintro (h | h | ⟨j, j0, j1, h⟩)
      · exact Or.inl h
      · exact Or.inr ⟨_, rfl, 0, (evX_mem _).mpr (Or.inl rfl), by show x = en - 0; omega⟩
      · exact Or.inr ⟨_, rfl, M 47 j, (evX_mem _).mpr (Or.inr ⟨j, j0, by omega, rfl⟩), h⟩
    · rintro (h | ⟨n, hn, u, hu, h⟩)
      · exact Or.inl h
      · subst hn
        have h : x = en - u := h
        rcases (evX_mem _).mp hu with q | ⟨j, j0, j1, q⟩
        · exact Or.inr (Or.inl (by omega))
        · exact Or.inr (Or.inr ⟨j, j0, by omega, by omega⟩)
theorem tm_0 {v : Int → Int → Int} {s : sS} (h : ∀ w, 0 ≤ w → w < 4 → sl s w = 0) : tmZ v s = 0 :=
  itZ_inv (fun _ x => x = 0) rfl (n := 4) (fun k x k0 k1 hx => by unfold tmF spd; rw [h k k0 k1, if_pos rfl, if_neg (by omega)]; exact hx) 4 (by omega) (by omega)
theorem tm_arg {v : Int → Int → Int} {s : sS} (h : 0 < tmZ v s) : ∃ w, 0 ≤ w ∧ w < 4 ∧ 0 < spd v s w ∧ tmZ v s = lastZ (sp s w) (spd v s w) :=
  itZ_inv (f := tmF v s) (a := 0) (fun k x => 0 < x → ∃ w, 0 ≤ w ∧ w < k ∧ 0 < spd v s w ∧ x = lastZ (sp s w) (spd v s w)) (by intro q; omega) (n := 4) (fun k x k0 k1 hx => by
    intro q
    unfold tmF at q ⊢
    by_cases h1 : 0 < spd v s k
    · rw [if_pos h1] at q ⊢
      by_cases h2 : x = 0 ∨ lastZ (sp s k) (spd v s k) < x
      · rw [if_pos h2] at q ⊢
        exact ⟨k, k0, by omega, h1, rfl⟩
      · rw [if_neg h2] at q ⊢
        obtain ⟨w, a, b, c, e⟩ := hx q
        exact ⟨w, a, by omega, c, e⟩
    · rw [if_neg h1] at q ⊢
      obtain ⟨w, a, b, c, e⟩ := hx q
      exact ⟨w, a, by omega, c, e⟩) 4 (by omega) (by omega) h
theorem lastZ_out {P F : Int} (hP : 0 ≤ P) (hF : 0 < F) (h : 0 < lastZ P F) : 0 < P ∧ P - F * lastZ P F ≤ 0 := by
  unfold lastZ at *
  rw [Int.tdiv_eq_ediv_of_nonneg (by omega)] at *
  have h1 := Int.mul_ediv_add_emod (P + F - 1) F
  have h2 := Int.emod_lt_of_pos (P + F - 1) hF
  refine ⟨?_, by omega⟩
  by_cases hp : 0 < P
  · exact hp
  · have e : P = 0 := by omega
    subst e
    rw [Int.ediv_eq_zero_of_lt (by omega) (by omega)] at h
    omega
theorem any_0 {v : Int → Int → Int} {s : sS} {t : Int} (h : itZ (anyF v s t) 0 4 = 0) : ∀ w, 0 ≤ w → w < 4 → ¬ 0 < leftZ v s t w :=
  (itZ_inv (f := anyF v s t) (a := 0) (fun k x => (x = 0 ∨ x = 1) ∧ (x = 0 → ∀ w, 0 ≤ w → w < k → ¬ 0 < leftZ v s t w)) ⟨Or.inl rfl, fun _ w a b => by omega⟩ (n := 4) (fun k x k0 k1 hx => by
    unfold anyF
    by_cases h1 : 0 < leftZ v s t k
    · rw [if_pos h1]; exact ⟨Or.inr rfl, fun q => by omega⟩
    · rw [if_neg h1]
      refine ⟨hx.1, fun q w a b => ?_⟩
      by_cases hw : w = k
      · rw [hw]; exact h1
      · exact hx.2 q w a (by omega)) 4 (by omega) (by omega)).2 h
theorem emD_none {mx : Int → Int} {pr : Int → Int → Int → Int → Int} {v : Int → Int → Int} {s : sS} {n : sN} (hp : ∀ w, 0 ≤ w → w < 4 → ¬ 0 < sp s w) (hl : ∀ w, 0 ≤ w → w < 4 → sl s w = 0) : ∀ d : Nat, ¬ emD mx pr v d s n
  | 0 => fun h => h
  | d + 1 => fun h => by
    have h : emW mx pr (fun _ => 0) (emB v (emD mx pr v d)) (4 - (0 : Int)).toNat s n := h
    rw [emW_skip 4 0 4 (by omega) (by omega) (by omega) (fun w a b => hp w a b)] at h
    have h : emB v (emD mx pr v d) s n := h
    have := h.1
    rw [tm_0 hl] at this
    omega
section Until
variable {M : fM} {v : pV} {dp t e c f : Int}
abbrev s0 (M : fM) (dp t e c f : Int) : sS := tS M dp t e c f (evX M dp.toNat)
theorem tm_t {M : fM} {dp t e c f : Int} : tmZ (tV M) (tS M dp 0 0 0 0 []) = tmZ (tV M) (s0 M dp t e c f) := rfl
theorem any_eq {M K : fM} {dp t e c f T : Int} (h43 : K 43 = M 43) (h44 : K 44 = M 44) : itZ (anyF (tV M) (tS K dp 0 0 0 0 []) T) 0 4 = itZ (anyF (tV M) (s0 M dp t e c f) T) 0 4 := by
  unfold s0 tS
  rw [h43, h44]
  rfl
theorem U.tm (hk : tOk M v dp 4 t e c f) : (0 ≤ tmZ (tV M) (s0 M dp t e c f) ∧ tmZ (tV M) (s0 M dp t e c f) ≤ 99) ∧ (0 < tmZ (tV M) (s0 M dp t e c f) → dp ≤ 3) := by
  obtain ⟨k1, ⟨k21, k22, k23⟩, ⟨k31, k32, k33⟩, k4, k5, k6⟩ := hk
  refine ⟨tm_rg k21 (by omega) (Int.le_refl 4), fun h => ?_⟩
  obtain ⟨w, a, b, h1, h2⟩ := tm_arg h
  have hq := k21.1 w a b
  rw [h2] at h
  rw [tS_p ⟨a, b⟩] at h
  have := (lastZ_out hq.1.1 h1 h).1
  by_cases hd : dp ≤ 3
  · exact hd
  · exact absurd this (cnS_zero (P := fun w => M 43 (dp * 4 + w)) (by omega) a b)
theorem spd_rg (hT : tR M dp) {w : Int} (a : 0 ≤ w) (b : w < 4) : 0 ≤ spd (tV M) (s0 M dp t e c f) w ∧ spd (tV M) (s0 M dp t e c f) w ≤ 6 := by
  have hq := hT.1 w a b
  have hq6 := hT.2 (w * 3 + M 44 (dp * 4 + w)) (by omega) (by omega)
  rw [tS_spd ⟨a, b⟩]
  split
  · omega
  · exact hq6
theorem left_le (hT : tR M dp) {T w : Int} (h0 : 0 ≤ T) (a : 0 ≤ w) (b : w < 4) : leftZ (tV M) (s0 M dp t e c f) T w ≤ M 43 (dp * 4 + w) := by
  have h1 := spd_rg (t := t) (e := e) (c := c) (f := f) hT a b
  unfold leftZ
  rw [tS_p ⟨a, b⟩]
  have := Int.mul_nonneg h1.1 h0
  omega
theorem left_out {T w : Int} (h : ¬ (0 ≤ w ∧ w < 4)) : ¬ 0 < leftZ (tV M) (s0 M dp t e c f) T w := by
  unfold leftZ spd
  rw [show sl (s0 M dp t e c f) w = 0 from if_neg h, show sp (s0 M dp t e c f) w = 0 from if_neg h, if_pos rfl]
  omega
/-- what the memory is behind an event: the notes made, the next row laid -/
def NX (M : fM) (v : pV) (dp t e c f : Int) (N : fM) : Prop :=
  (∀ k, k ≠ 35 → k ≠ 36 → (k < 40 ∨ 47 < k ∨ k = 46) → N k = M k) ∧ (∀ i, 0 ≤ i → i < dp * 4 + 4 → N 43 i = M 43 i ∧ N 44 i = M 44 i) ∧
  (∀ w, 0 ≤ w → w < 4 → N 43 ((dp + 1) * 4 + w) = sp (sB (tV M) (tmZ (tV M) (s0 M dp t e c f)) (s0 M dp t e c f)) w ∧ N 44 ((dp + 1) * 4 + w) = sl (sB (tV M) (tmZ (tV M) (s0 M dp t e c f)) (s0 M dp t e c f)) w) ∧
  (∀ i, 0 ≤ i → i < dp * 8 + 8 → N 45 i = M 45 i) ∧ (M 39 12 = 0 → ∀ i, 0 ≤ i → i < 40 → N 45 i = M 45 i) ∧
  (∀ j, 0 ≤ j → j < dp → N 47 j = M 47 j) ∧ N 47 dp = t + tmZ (tV M) (s0 M dp t e c f) ∧
  UpdC M (fun n => n = (t + tmZ (tV M) (s0 M dp t e c f), e, c, f, evX M dp.toNat)) N
theorem NX.fr {N : fM} (h : NX M v dp t e c f N) : Fr dp M N := ⟨h.1, h.2.1, h.2.2.2.1, h.2.2.2.2.2.1, h.2.2.2.2.1⟩
theorem NX.make (hd : 0 ≤ dp) {a b : Int} (ha : a = min (M 40 (t + tmZ (tV M) (s0 M dp t e c f))) (e * 10000 + f)) (hb : b = min (M 41 (t + tmZ (tV M) (s0 M dp t e c f))) c) : NX M v dp t e c f (bdM (naM (up (up M 40 (t + tmZ (tV M) (s0 M dp t e c f)) a) 41 (t + tmZ (tV M) (s0 M dp t e c f)) b) dp (t + tmZ (tV M) (s0 M dp t e c f)) dp) dp (tmZ (tV M) (s0 M dp t e c f)) 4) := by
  unfold NX
  generalize hT : tmZ (tV M) (s0 M dp t e c f) = T at *
  have hK : ∀ k, k ≠ 40 → k ≠ 41 → k ≠ 42 → k ≠ 47 → naM (up (up M 40 (t + T) a) 41 (t + T) b) dp (t + T) dp k = M k := fun k k1 k2 k3 k4 => by
    rw [naM_c k3, up_ne k4, up_ne k2, up_ne k1]
  have eV : tV (naM (up (up M 40 (t + T) a) 41 (t + T) b) dp (t + T) dp) = tV M := tV_eq (hK 46 (by decide) (by decide) (by decide) (by decide))
  have eS : ∀ w, sp (sB (tV M) T (tS (naM (up (up M 40 (t + T) a) 41 (t + T) b) dp (t + T) dp) dp 0 0 0 0 [])) w = sp (sB (tV M) T (s0 M dp t e c f)) w ∧ sl (sB (tV M) T (tS (naM (up (up M 40 (t + T) a) 41 (t + T) b) dp (t + T) dp) dp 0 0 0 0 [])) w = sl (sB (tV M) T (s0 M dp t e c f)) w := fun w => by
    unfold s0 tS
    rw [hK 43 (by decide) (by decide) (by decide) (by decide), hK 44 (by decide) (by decide) (by decide) (by decide)]
    exact ⟨rfl, rfl⟩
  refine ⟨fun k a b z => by rw [bdM_ne (by omega), hK k (by omega) (by omega) (by omega) (by omega)], fun i i0 i1 => ?_, fun w w0 w1 => ?_, fun i i0 i1 => ?_, fun z i i0 i1 => ?_, fun j j0 j1 => ?_, ?_, (note_upd hd ha hb).eq (fun _ _ _ => rfl) (fun k a b => bdM_ne (by omega))⟩
  · rw [bdM_lo (by omega), bdM_lo (by omega), hK 43 (by decide) (by decide) (by decide) (by decide), hK 44 (by decide) (by decide) (by decide) (by decide)]; exact ⟨rfl, rfl⟩
  · unfold bdM
    rw [if_pos (by omega), if_neg (by omega), if_pos (by omega), show (dp + 1) * 4 + w - dp * 4 - 4 = w by omega, eV]
    exact eS w
  · rw [bdM_ne (by decide), hK 45 (by decide) (by decide) (by decide) (by decide)]
  · rw [bdM_ne (by decide), hK 45 (by decide) (by decide) (by decide) (by decide)]
  · rw [bdM_ne (by decide), naM_e (by omega), up_ne (by decide), up_ne (by decide)]
  · rw [bdM_ne (by decide), naM_c (by decide), up_app, if_pos ⟨rfl, rfl⟩]
theorem NX.ask (hk : tOk M v dp 4 t e c f) (hd : dp ≤ 3) {N K : fM} (h : NX M v dp t e c f N) {en : Int} (hq : (N 39 12 = 0 ∧ K = N) ∨ (N 39 12 ≠ 0 ∧ apI N v (dp + 1) en (2 * N 1 5) K)) : NX M v dp t e c f K := by
  have hd0 := hk.2.2.1.1
  rcases hq with ⟨-, rfl⟩ | ⟨h39, hA, hB⟩
  · exact h
  · obtain ⟨h1, h2, h3, h4, h5, h6, h7, h8⟩ := h
    refine ⟨fun k a b z => by rw [hA k a b (by omega), h1 k a b z], fun i a b => by rw [hA 43 (by decide) (by decide) (by decide), hA 44 (by decide) (by decide) (by decide)]; exact h2 i a b, fun w a b => by rw [hA 43 (by decide) (by decide) (by decide), hA 44 (by decide) (by decide) (by decide)]; exact h3 w a b, fun i a b => ?_, fun z i a b => ?_, fun j a b => by rw [hA 47 (by decide) (by decide) (by decide)]; exact h6 j a b, by rw [hA 47 (by decide) (by decide) (by decide)]; exact h7, h8.eq (fun _ _ _ => rfl) (fun k a b => hA k (by omega) (by omega) (by omega))⟩
    · rw [hB i, if_neg (fun q => by have := q.1; omega)]; exact h4 i a b
    · exfalso
      rw [h1 39 (by decide) (by decide) (by decide)] at h39
      exact h39 z
theorem NX.ok (hk : tOk M v dp 4 t e c f) (ht : 0 < tmZ (tV M) (s0 M dp t e c f)) {N : fM} (h : NX M v dp t e c f N) (hp : ∀ w l, 0 ≤ w → w < 4 → 0 < N 43 ((dp + 1) * 4 + w) → N 44 ((dp + 1) * 4 + w) ≤ l → 0 ≤ l → l < 2 → N 45 (((dp + 1) * 4 + w) * 2 + l) = prX N v w l (N 43 ((dp + 1) * 4 + w)) (t + tmZ (tV M) (s0 M dp t e c f))) : tOk N v (dp + 1) 0 (t + tmZ (tV M) (s0 M dp t e c f)) e c f := by
  obtain ⟨htm, hd3⟩ := U.tm hk
  have hd3 := hd3 ht
  obtain ⟨k1, ⟨k21, k22, k23⟩, ⟨k31, k32, k33⟩, ⟨k41, k42, k43, k44, k45, k46⟩, k5, k61, k62⟩ := hk
  obtain ⟨h1, h2, h3, h4, h5, h6, h7, h8⟩ := h
  have hsp : ∀ w, 0 ≤ w → w < 4 → sp (sB (tV M) (tmZ (tV M) (s0 M dp t e c f)) (s0 M dp t e c f)) w = if 0 < leftZ (tV M) (s0 M dp t e c f) (tmZ (tV M) (s0 M dp t e c f)) w then leftZ (tV M) (s0 M dp t e c f) (tmZ (tV M) (s0 M dp t e c f)) w else 0 := fun w a b => rfl
  have hsl : ∀ w, 0 ≤ w → w < 4 → sl (sB (tV M) (tmZ (tV M) (s0 M dp t e c f)) (s0 M dp t e c f)) w = if 0 < leftZ (tV M) (s0 M dp t e c f) (tmZ (tV M) (s0 M dp t e c f)) w then M 44 (dp * 4 + w) else 0 := fun w a b => by
    show (if _ then sl (s0 M dp t e c f) w else 0) = _
    rw [tS_l ⟨a, b⟩]
  have hpos : ∀ w, 0 ≤ w → w < 4 → 0 < N 43 ((dp + 1) * 4 + w) → 0 < M 43 (dp * 4 + w) := fun w a b q => by
    rw [(h3 w a b).1, hsp w a b] at q
    have := left_le (t := t) (e := e) (c := c) (f := f) k21 htm.1 a b
    split at q <;> omega
  refine ⟨k1.eq (fun k a b z => h1 k a b (by omega)), ⟨⟨fun w a b => ?_, fun j a b => by rw [h1 46 (by decide) (by decide) (by decide)]; exact k21.2 j a b⟩, ?_, fun w a b q => by rw [h1 1 (by decide) (by decide) (by decide)]; exact k23 w a b (hpos w a b q)⟩, ⟨by omega, by omega, fun j a b => ?_⟩, ⟨by omega, by omega, by omega, k44, k45, fun z => by omega⟩, fun z => by omega, hp, fun z i a b => ?_⟩
  · rw [(h3 w a b).1, (h3 w a b).2, hsp w a b, hsl w a b]
    have := left_le (t := t) (e := e) (c := c) (f := f) k21 htm.1 a b
    have hq := k21.1 w a b
    split <;> omega
  · obtain ⟨w, a, b, g1, g2⟩ := tm_arg ht
    have hq := k21.1 w a b
    have g3 := ht
    rw [g2, tS_p ⟨a, b⟩] at g3
    have g4 := lastZ_out hq.1.1 g1 g3
    have := cnS_drop (P := fun w => N 43 ((dp + 1) * 4 + w)) (Q := fun w => M 43 (dp * 4 + w)) (fun w a b q => hpos w a b q) a b g4.1 (fun q => by
      have q : 0 < N 43 ((dp + 1) * 4 + w) := q
      rw [(h3 w a b).1, hsp w a b] at q
      have g5 : leftZ (tV M) (s0 M dp t e c f) (tmZ (tV M) (s0 M dp t e c f)) w ≤ 0 := by
        unfold leftZ
        rw [g2, tS_p ⟨a, b⟩]
        exact g4.2
      split at q <;> omega)
    omega
  · by_cases hj : j = dp
    · rw [hj, h7]; omega
    · rw [h6 j a (by omega)]
      have := k33 j a (by omega)
      omega
  · rw [h1 39 (by decide) (by decide) (by decide)] at z
    rw [h5 z i a b]; exact k62 z i a b
theorem NX.price (hk : tOk M v dp 4 t e c f) (hd : dp ≤ 3) {N K : fM} (h : NX M v dp t e c f N) (hN : ∀ w, 0 ≤ w → w < 4 → 0 < N 43 ((dp + 1) * 4 + w) → w < N 1 5) {en : Int} (hq : (N 39 12 = 0 ∧ K = N) ∨ (N 39 12 ≠ 0 ∧ apI N v (dp + 1) en (2 * N 1 5) K)) : ∀ w l, 0 ≤ w → w < 4 → 0 < K 43 ((dp + 1) * 4 + w) → K 44 ((dp + 1) * 4 + w) ≤ l → 0 ≤ l → l < 2 → K 45 (((dp + 1) * 4 + w) * 2 + l) = prX K v w l (K 43 ((dp + 1) * 4 + w)) en := by
  intro w l w0 w1 hp hl l0 l1
  have hd0 := hk.2.2.1.1
  rcases hq with ⟨h39, rfl⟩ | ⟨h39, hA, hB⟩
  · have e39 := h.1 39 (by decide) (by decide) (by decide)
    rw [e39] at h39
    unfold prX
    rw [e39, if_pos h39, h.2.2.2.2.1 h39 _ (by omega) (by omega)]
    exact hk.2.2.2.2.2.2 h39 _ (by omega) (by omega)
  · have e43 := hA 43 (by decide) (by decide) (by decide)
    have e44 := hA 44 (by decide) (by decide) (by decide)
    rw [e43] at hp ⊢
    rw [e44] at hl
    have hw := hN w w0 w1 hp
    have ei : (((dp + 1) * 4 + w) * 2 + l) / 2 = (dp + 1) * 4 + w := by omega
    rw [hB, if_pos ⟨by omega, by rw [ei]; exact hp, by rw [ei]; omega⟩, ei, show (((dp + 1) * 4 + w) * 2 + l) % 2 = l by omega, show (dp + 1) * 4 + w - (dp + 1) * 4 = w by omega]
    rw [prX_eq (hA 39 (by decide) (by decide) (by decide)) (hA 1 (by decide) (by decide) (by decide)) (hA 4 (by decide) (by decide) (by decide)) (hA 6 (by decide) (by decide) (by decide))]
    unfold prX
    rw [if_neg h39]
theorem NX.upd (hk : tOk M v dp 4 t e c f) (ht : 0 < tmZ (tV M) (s0 M dp t e c f)) {N K : fM} (h : NX M v dp t e c f N) (hc : chP N v (dp + 1) 0 (t + tmZ (tV M) (s0 M dp t e c f)) e c f K) : uP M v dp t e c f K := by
  obtain ⟨htm, hd3⟩ := U.tm hk
  have hd3 := hd3 ht
  have hd0 := hk.2.2.1.1
  refine ⟨?_, h.fr.trans (hc.2.down (by omega))⟩
  obtain ⟨h1, h2, h3, h4, h5, h6, h7, h8⟩ := h
  refine h8.comp (fun n => ?_) hc.1
  have eS : chS N v (dp + 1) 0 (t + tmZ (tV M) (s0 M dp t e c f)) e c f = emD (useZ M) (prX M v) (tV M) (4 - dp).toNat (sB (tV M) (tmZ (tV M) (s0 M dp t e c f)) (s0 M dp t e c f)) := by
    have e46 := h1 46 (by decide) (by decide) (by decide)
    unfold chS chB
    rw [useZ_eq e46, tV_eq e46, prX_eq (h1 39 (by decide) (by decide) (by decide)) (h1 1 (by decide) (by decide) (by decide)) (h1 4 (by decide) (by decide) (by decide)) (h1 6 (by decide) (by decide) (by decide))]
    rw [show unD N (dp + 1) = fun _ => 0 from if_neg (by omega), show (4 - dp).toNat = (4 - (dp + 1)).toNat + 1 by omega]
    show _ = emW (useZ M) (prX M v) (fun _ => 0) (emB (tV M) (emD (useZ M) (prX M v) (tV M) (4 - (dp + 1)).toNat)) 4 _
    rw [show (4 - (0 : Int)).toNat = 4 from rfl]
    refine congrArg _ ?_
    have ex : evX N (dp + 1).toNat = evX M dp.toNat ++ [t + tmZ (tV M) (s0 M dp t e c f)] := by
      rw [show (dp + 1).toNat = dp.toNat + 1 by omega]
      show evX N dp.toNat ++ [N 47 (dp.toNat : Int)] = _
      rw [evX_eq dp.toNat (fun j a b => h6 j a (by omega)), show (dp.toNat : Int) = dp by omega, h7]
    rw [ex]
    refine Prod.ext (funext fun w => ?_) (Prod.ext (funext fun w => ?_) rfl)
    · show cut4 (fun w => N 43 ((dp + 1) * 4 + w)) w = _
      unfold cut4
      by_cases hw : 0 ≤ w ∧ w < 4
      · rw [if_pos hw]; exact (h3 w hw.1 hw.2).1
      · rw [if_neg hw]
        exact (if_neg (left_out hw)).symm
    · show cut4 (fun w => N 44 ((dp + 1) * 4 + w)) w = _
      unfold cut4
      by_cases hw : 0 ≤ w ∧ w < 4
      · rw [if_pos hw]; exact (h3 w hw.1 hw.2).2
      · rw [if_neg hw]
        exact (if_neg (left_out hw)).symm
  rw [eS]
  exact ⟨fun q => q.2, fun q => ⟨ht, q⟩⟩
theorem NX.end (hk : tOk M v dp 4 t e c f) (ht : 0 < tmZ (tV M) (s0 M dp t e c f)) {N : fM} (h : NX M v dp t e c f N) (ha : itZ (anyF (tV M) (s0 M dp t e c f) (tmZ (tV M) (s0 M dp t e c f))) 0 4 = 0) : uP M v dp t e c f N := by
  have hl := any_0 ha
  refine ⟨h.2.2.2.2.2.2.2.congr (fun n => ?_), h.fr⟩
  refine ⟨fun q => q.2.elim (fun z => z) (fun z => absurd z (emD_none (fun w a b => ?_) (fun w a b => ?_) _)), fun q => ⟨ht, Or.inl q⟩⟩
  · show ¬ 0 < (if _ then _ else (0 : Int))
    rw [if_neg (hl w a b)]; omega
  · exact if_neg (hl w a b)
theorem U.none (h : ¬ 0 < tmZ (tV M) (s0 M dp t e c f)) : uP M v dp t e c f M := ⟨UpdC.id (fun n q => h q.1) (fun _ _ _ => rfl), Fr.refl⟩
end Until
theorem NX.ok0 {M : fM} {v : pV} {dp t e c f : Int} (hk : tOk M v dp 4 t e c f) (ht : 0 < tmZ (tV M) (s0 M dp t e c f)) {N : fM} (h : NX M v dp t e c f N) : tStat N v ∧ tRow N (dp + 1) := by
  -- the same memory with prices as they should be
  have hP : ∀ K : fM, (∀ k, k ≠ 45 → K k = N k) → (∀ w l, 0 ≤ w → w < 4 → 0 < K 43 ((dp + 1) * 4 + w) → K 44 ((dp + 1) * 4 + w) ≤ l → 0 ≤ l → l < 2 → K 45 (((dp + 1) * 4 + w) * 2 + l) = prX K v w l (K 43 ((dp + 1) * 4 + w)) (t + tmZ (tV M) (s0 M dp t e c f))) → (∀ i, 0 ≤ i → i < dp * 8 + 8 → K 45 i = N 45 i) → (M 39 12 = 0 → ∀ i, 0 ≤ i → i < 40 → K 45 i = N 45 i) → tStat N v ∧ tRow N (dp + 1) := fun K hK hp h45 h450 => by
    obtain ⟨h1, h2, h3, h4, h5, h6, h7, h8⟩ := h
    have hX : NX M v dp t e c f K := ⟨fun k a b z => by rw [hK k (by omega), h1 k a b z], fun i a b => by rw [hK 43 (by decide), hK 44 (by decide)]; exact h2 i a b, fun w a b => by rw [hK 43 (by decide), hK 44 (by decide)]; exact h3 w a b, fun i a b => by rw [h45 i a b, h4 i a b], fun z i a b => by rw [h450 z i a b, h5 z i a b], fun j a b => by rw [hK 47 (by decide), h6 j a b], by rw [hK 47 (by decide)]; exact h7, h8.eq (fun _ _ _ => rfl) (fun k a b => hK k (by omega))⟩
    have hO := NX.ok hk ht hX hp
    refine ⟨hO.1.eq (fun k a b z => (hK k (by omega)).symm), ?_⟩
    have := hO.2.1
    unfold tRow tR at *
    rw [hK 43 (by decide), hK 44 (by decide), hK 46 (by decide), hK 1 (by decide)] at this
    exact this
  by_cases h39 : M 39 12 = 0
  · refine hP N (fun _ _ => rfl) (fun w l w0 w1 hp hl l0 l1 => ?_) (fun _ _ _ => rfl) (fun _ _ _ _ => rfl)
    have hd := (U.tm hk).2 ht
    have hd0 := hk.2.2.1.1
    unfold prX
    rw [h.1 39 (by decide) (by decide) (by decide), if_pos h39, h.2.2.2.2.1 h39 _ (by omega) (by omega)]
    exact hk.2.2.2.2.2.2 h39 _ (by omega) (by omega)
  · have hd0 := hk.2.2.1.1
    refine hP (ro N 45 (fun i => if dp * 8 + 8 ≤ i then prX N v (i / 2 - (dp + 1) * 4) (i % 2) (N 43 (i / 2)) (t + tmZ (tV M) (s0 M dp t e c f)) else N 45 i)) (fun k hk => ro_ne hk) (fun w l w0 w1 hp hl l0 l1 => ?_) (fun i a b => ?_) (fun z => absurd z h39)
    · have hr : ∀ k, k ≠ 45 → (ro N 45 (fun i => if dp * 8 + 8 ≤ i then prX N v (i / 2 - (dp + 1) * 4) (i % 2) (N 43 (i / 2)) (t + tmZ (tV M) (s0 M dp t e c f)) else N 45 i)) k = N k := fun k hk => ro_ne hk
      rw [prX_eq (hr 39 (by decide)) (hr 1 (by decide)) (hr 4 (by decide)) (hr 6 (by decide)), hr 43 (by decide), ro_eq]
      show (if _ then _ else _) = _
      rw [if_pos (by omega), show (((dp + 1) * 4 + w) * 2 + l) / 2 = (dp + 1) * 4 + w by omega, show (((dp + 1) * 4 + w) * 2 + l) % 2 = l by omega, show (dp + 1) * 4 + w - (dp + 1) * 4 = w by omega]
    · rw [ro_eq]
      show (if _ then _ else _) = _
      rw [if_neg (by omega)]
set_option maxRecDepth 20000 in
set_option maxHeartbeats 4000000 in
theorem t_X4_until_step {X : fX} {M : fM} {d : Nat} {dp t e c f : Int} {v : pV} (hk : tOk M v dp 4 t e c f)
    (hC : dp ≤ 3 → ∀ (N : fM) (e c f t : Int), tOk N v (dp + 1) 0 t e c f → fC X (d + 2) mX4_choose [.ref (xa X 39), .int (iv (dp + 1)), .int (iv 0), .int (iv t), .int (iv e), .int (iv c), .int (iv f)] N (QV fun K => chP N v (dp + 1) 0 t e c f K)) : fC X (d + 3) mX4_untilAnyIsOut [.ref (xa X 39), .int (iv dp), .int (iv t), .int (iv e), .int (iv c), .int (iv f)] M (QV fun K => uP M v dp t e c f K) := by
  have hk2 := hk.2.1
  have hk3 := hk.2.2.1
  have hk4 := hk.2.2.2.1
  have hdp := hk3.1
  have hb1 := hk3.2.1
  have hb2 := hk4.2.1
  have hb3 := hk4.2.2.1
  have hb4 := hk4.2.2.2.1
  have hb5 := hk4.2.2.2.2.1
  refine fC.of (L := [_, _, _, _, _, _, _, _]) (by decide +kernel) rfl (Nat.le_of_ble_eq_true rfl) (fun Z hZ hR => ?_)
  refine f_aload_n hZ dX4_untilAnyIsOut_0 rfl ?_
  refine f_iload_n hZ dX4_untilAnyIsOut_1 rfl ?_
  refine vX4_115 hZ dX4_untilAnyIsOut_2 (t_X4_moments hdp hk2.1) (fun a2 M2 r2 h2 => ?_)
  obtain ⟨e2, h2⟩ := h2
  replace e2 := e2.symm
  subst e2
  rw [tm_t (t := t) (e := e) (c := c) (f := f)] at h2
  subst h2
  obtain ⟨htm, hd3⟩ := U.tm hk
  refine f_istore (L' := [_, _, _, _, _, _, _, _]) hZ dX4_untilAnyIsOut_5 rfl rfl ?_
  refine f_iload_n hZ dX4_untilAnyIsOut_7 rfl ?_
  refine f_iload hZ dX4_untilAnyIsOut_8 rfl ?_
  refine f_iadd hZ dX4_untilAnyIsOut_10 ?_
  refine f_istore (L' := [_, _, _, _, _, _, _, _]) hZ dX4_untilAnyIsOut_11 rfl rfl ?_
  refine f_iload hZ dX4_untilAnyIsOut_13 rfl ?_
  refine f_le (tgt := 33) hZ dX4_untilAnyIsOut_15 rfl (by omega) (fun h15 => ?_) (fun h15 => ?_)
  · exact f_retV hZ hR dX4_untilAnyIsOut_33 rfl (by exact U.none (by omega))
  · have hd3 := hd3 (by omega)
    refine f_iload hZ dX4_untilAnyIsOut_18 rfl ?_
    refine f_sipush hZ dX4_untilAnyIsOut_20 ?_
    refine f_ige (tgt := 33) hZ dX4_untilAnyIsOut_23 rfl (by omega) (by omega) (fun h23 => ?_) (fun h23 => ?_)
    · exfalso; omega
    · refine f_iload_n hZ dX4_untilAnyIsOut_26 rfl ?_
      refine f_iconst hZ dX4_untilAnyIsOut_27 ?_
      refine f_iadd hZ dX4_untilAnyIsOut_28 ?_
      refine f_iconst hZ dX4_untilAnyIsOut_29 ?_
      refine f_ilt (tgt := 34) hZ dX4_untilAnyIsOut_30 rfl (by omega) (by omega) (fun h30 => ?_) (fun h30 => ?_)
      · refine f_aload_n hZ dX4_untilAnyIsOut_34 rfl ?_
        refine gX4_11 hZ dX4_untilAnyIsOut_35 ?_
        refine f_iload hZ dX4_untilAnyIsOut_38 rfl ?_
        refine f_aload_n hZ dX4_untilAnyIsOut_40 rfl ?_
        refine gX4_11 hZ dX4_untilAnyIsOut_41 ?_
        refine f_iload hZ dX4_untilAnyIsOut_44 rfl ?_
        refine f_iaload hZ dX4_untilAnyIsOut_46 (by first | rfl | exact hC.t1 | exact hC.t2 | exact hC.t3 | exact hC.t4 | exact hC.t5) (by first | rfl | exact hC.l1 | exact hC.l2 | exact hC.l3 | exact hC.l4 | exact hC.l5) (by omega) (by omega) (fun r46 => ?_)
        try simp only [up_ne (show (41 : Nat) ≠ 40 by decide)] at r46 ⊢
        refine f_iload_n hZ dX4_untilAnyIsOut_47 rfl ?_
        refine f_sipush hZ dX4_untilAnyIsOut_48 ?_
        refine f_imul hZ dX4_untilAnyIsOut_51 ?_
        refine f_iload hZ dX4_untilAnyIsOut_52 rfl ?_
        refine f_iadd hZ dX4_untilAnyIsOut_54 ?_
        refine f_min hZ dX4_untilAnyIsOut_55 wk_X4_118 (by omega) (by omega) (Nat.le_of_ble_eq_true rfl) ?_
        refine f_iastore hZ dX4_untilAnyIsOut_58 (by first | rfl | exact hC.t1 | exact hC.t2 | exact hC.t3 | exact hC.t4 | exact hC.t5) (by first | rfl | exact hC.l1 | exact hC.l2 | exact hC.l3 | exact hC.l4 | exact hC.l5) (by omega) (by omega) (by omega) ?_
        refine f_aload_n hZ dX4_untilAnyIsOut_59 rfl ?_
        refine gX4_15 hZ dX4_untilAnyIsOut_60 ?_
        refine f_iload hZ dX4_untilAnyIsOut_63 rfl ?_
        refine f_aload_n hZ dX4_untilAnyIsOut_65 rfl ?_
        refine gX4_15 hZ dX4_untilAnyIsOut_66 ?_
        refine f_iload hZ dX4_untilAnyIsOut_69 rfl ?_
        refine f_iaload hZ dX4_untilAnyIsOut_71 (by first | rfl | exact hC.t1 | exact hC.t2 | exact hC.t3 | exact hC.t4 | exact hC.t5) (by first | rfl | exact hC.l1 | exact hC.l2 | exact hC.l3 | exact hC.l4 | exact hC.l5) (by omega) (by omega) (fun r71 => ?_)
        try simp only [up_ne (show (41 : Nat) ≠ 40 by decide)] at r71 ⊢
        refine f_iload hZ dX4_untilAnyIsOut_72 rfl ?_
        refine f_min hZ dX4_untilAnyIsOut_74 wk_X4_118 (by omega) (by omega) (Nat.le_of_ble_eq_true rfl) ?_
        refine f_iastore hZ dX4_untilAnyIsOut_77 (by first | rfl | exact hC.t1 | exact hC.t2 | exact hC.t3 | exact hC.t4 | exact hC.t5) (by first | rfl | exact hC.l1 | exact hC.l2 | exact hC.l3 | exact hC.l4 | exact hC.l5) (by omega) (by omega) (by omega) ?_
        refine f_aload_n hZ dX4_untilAnyIsOut_78 rfl ?_
        refine f_iload_n hZ dX4_untilAnyIsOut_79 rfl ?_
        refine f_iload hZ dX4_untilAnyIsOut_80 rfl ?_
        refine vX4_123 hZ dX4_untilAnyIsOut_82 (t_X4_noteApart (by omega) (by omega) (fun j a b => by have := hk3.2.2 j a b; rw [up_ne (by decide), up_ne (by decide)]; omega)) (fun M82 h82 => ?_)
        subst h82
        have hK : ∀ k, k ≠ 40 → k ≠ 41 → k ≠ 42 → k ≠ 47 → (naM (up (up M 40 (t + tmZ (tV M) (s0 M dp t e c f)) (min (M 40 (t + tmZ (tV M) (s0 M dp t e c f))) (e * 10000 + f))) 41 (t + tmZ (tV M) (s0 M dp t e c f)) (min (M 41 (t + tmZ (tV M) (s0 M dp t e c f))) c)) dp (t + tmZ (tV M) (s0 M dp t e c f)) dp) k = M k := fun k k1 k2 k3 k4 => by rw [naM_c k3, up_ne k4, up_ne k2, up_ne k1]
        have hRK : tR (naM (up (up M 40 (t + tmZ (tV M) (s0 M dp t e c f)) (min (M 40 (t + tmZ (tV M) (s0 M dp t e c f))) (e * 10000 + f))) 41 (t + tmZ (tV M) (s0 M dp t e c f)) (min (M 41 (t + tmZ (tV M) (s0 M dp t e c f))) c)) dp (t + tmZ (tV M) (s0 M dp t e c f)) dp) dp := by
          refine ⟨fun w a b => ?_, fun j a b => ?_⟩
          · rw [hK 43 (by decide) (by decide) (by decide) (by decide), hK 44 (by decide) (by decide) (by decide) (by decide)]; exact hk2.1.1 w a b
          · rw [hK 46 (by decide) (by decide) (by decide) (by decide)]; exact hk2.1.2 j a b
        refine f_aload_n hZ dX4_untilAnyIsOut_85 rfl ?_
        refine f_iload_n hZ dX4_untilAnyIsOut_86 rfl ?_
        refine f_iload hZ dX4_untilAnyIsOut_87 rfl ?_
        refine vX4_126 hZ dX4_untilAnyIsOut_89 (t_X4_burnDown (by omega) (by omega) hRK) (fun a89 M89 r89 h89 => ?_)
        obtain ⟨h89, e89⟩ := h89
        have hX : NX M v dp t e c f M89 := by rw [h89]; exact NX.make hdp.1 rfl rfl
        clear h89
        have e89 : a89 = itZ (anyF (tV M) (s0 M dp t e c f) (tmZ (tV M) (s0 M dp t e c f))) 0 4 := by
          rw [e89, tV_eq (hK 46 (by decide) (by decide) (by decide) (by decide))]
          exact any_eq (hK 43 (by decide) (by decide) (by decide) (by decide)) (hK 44 (by decide) (by decide) (by decide) (by decide))
        refine f_eq (tgt := 119) hZ dX4_untilAnyIsOut_92 rfl (by omega) (fun h92 => ?_) (fun h92 => ?_)
        · exact f_retV hZ hR dX4_untilAnyIsOut_119 rfl (by first | exact NX.end hk (by omega) hX (by omega) | exact NX.upd hk (by omega) hX2 h116)
        · have hO1 := NX.ok0 hk (by omega) hX
          have hS := hO1.1
          have hR2 := hO1.2.1
          refine f_aload_n hZ dX4_untilAnyIsOut_95 rfl ?_
          refine f_iload_n hZ dX4_untilAnyIsOut_96 rfl ?_
          refine f_iconst hZ dX4_untilAnyIsOut_97 ?_
          refine f_iadd hZ dX4_untilAnyIsOut_98 ?_
          refine f_iload hZ dX4_untilAnyIsOut_99 rfl ?_
          refine vX4_95 hZ dX4_untilAnyIsOut_101 (t_X4_askPrices (v := v) (by omega) (by omega) hS.1 hR2 hS.2.1 hS.2.2.1 hS.2.2.2.1) (fun M101 h101 => ?_)
          have hX2 := NX.ask hk hd3 hX h101
          have hO := NX.ok hk (by omega) hX2 (NX.price hk hd3 hX (fun w a b q => hO1.2.2.2 w a b q) h101)
          refine f_aload_n hZ dX4_untilAnyIsOut_104 rfl ?_
          refine f_iload_n hZ dX4_untilAnyIsOut_105 rfl ?_
          refine f_iconst hZ dX4_untilAnyIsOut_106 ?_
          refine f_iadd hZ dX4_untilAnyIsOut_107 ?_
          refine f_iconst hZ dX4_untilAnyIsOut_108 ?_
          refine f_iload hZ dX4_untilAnyIsOut_109 rfl ?_
          refine f_iload_n hZ dX4_untilAnyIsOut_111 rfl ?_
          refine f_iload hZ dX4_untilAnyIsOut_112 rfl ?_
          refine f_iload hZ dX4_untilAnyIsOut_114 rfl ?_
          refine vX4_99 hZ dX4_untilAnyIsOut_116 (hC (by omega) M101 e c f (t + tmZ (tV M) (s0 M dp t e c f)) hO) (fun M116 h116 => ?_)
          exact f_retV hZ hR dX4_untilAnyIsOut_119 rfl (by first | exact NX.end hk (by omega) hX (by omega) | exact NX.upd hk (by omega) hX2 h116)
      · exfalso; omega

theorem fC.dep {X : fX} {d d' : Nat} {y : fY} {As : List Value} {M : fM} {Q : Option Value → fM → Prop} (h : fC X d y As M Q) (e : d = d') : fC X d' y As M Q := e ▸ h
/-- all of it, by the depths that are left, and the wicks that are left -/
theorem t_X4_both {X : fX} {v : pV} : ∀ (q : Nat) (dp : Int), dp = 4 - (q : Int) →
    (∀ (d : Nat) (M : fM) (t e c f : Int), tOk M v dp 4 t e c f → fC X (d + (6 * q + 3)) mX4_untilAnyIsOut [.ref (xa X 39), .int (iv dp), .int (iv t), .int (iv e), .int (iv c), .int (iv f)] M (QV fun K => uP M v dp t e c f K)) ∧
    (∀ (k : Nat) (g : Int), g = 4 - (k : Int) → ∀ (d : Nat) (M : fM) (t e c f : Int), tOk M v dp g t e c f → fC X (d + (6 * q + 4 + k)) mX4_choose [.ref (xa X 39), .int (iv dp), .int (iv g), .int (iv t), .int (iv e), .int (iv c), .int (iv f)] M (QV fun K => chP M v dp g t e c f K))
  | q, dp, hq => by
    have hU : ∀ (d : Nat) (M : fM) (t e c f : Int), tOk M v dp 4 t e c f → fC X (d + (6 * q + 3)) mX4_untilAnyIsOut [.ref (xa X 39), .int (iv dp), .int (iv t), .int (iv e), .int (iv c), .int (iv f)] M (QV fun K => uP M v dp t e c f K) := by
      intro d M t e c f hk
      cases q with
      | zero => exact (t_X4_until_step (d := d) hk (fun h => by omega)).dep (by omega)
      | succ q =>
        have ih := (t_X4_both (X := X) (v := v) q (dp + 1) (by omega)).2 4 0 (by omega)
        exact (t_X4_until_step (d := d + (6 * q + 6)) hk (fun _ N e c f t h => (ih d N t e c f h).dep (by omega))).dep (by omega)
    refine ⟨hU, fun k => ?_⟩
    induction k using Nat.strongRecOn with
    | ind k ihk =>
      intro g hg d M t e c f hk
      have h4 := hk.2.2.2.1.1
      refine (t_X4_choose_step (d := d + (6 * q + 3 + k)) hk (fun N e c f h => (hU (d + k) N t e c f h).dep (by omega)) (fun N g' e c f h1 h2 h => ?_)).dep (by omega)
      have := ihk (4 - g').toNat (by omega) g' (by omega) (d + (k - 1 - (4 - g').toNat)) N t e c f h
      exact this.dep (by omega)
