/-! THE TELLINGS, purely: a state (parts, lit, time, ends, cost, first lighting, times of events), a note (span, ends, cost, first, times ahead) -/
abbrev sS : Type := (Int → Int) × (Int → Int) × Int × Int × Int × Int × List Int
abbrev sN : Type := Int × Int × Int × Int × List Int
abbrev sp (s : sS) : Int → Int := s.1
abbrev sl (s : sS) : Int → Int := s.2.1
abbrev st (s : sS) : Int := s.2.2.1
abbrev se (s : sS) : Int := s.2.2.2.1
abbrev sc (s : sS) : Int := s.2.2.2.2.1
abbrev sf (s : sS) : Int := s.2.2.2.2.2.1
abbrev sx (s : sS) : List Int := s.2.2.2.2.2.2
/-- what lighting from a ends to b costs, the ends' prices being pr 0, pr 1 -/
def lc (pr : Int → Int) (a b : Int) : Int := (if a ≤ 0 ∧ 0 < b then pr 0 else 0) + (if a ≤ 1 ∧ 1 < b then pr 1 else 0)
def sL (pr : Int → Int → Int → Int → Int) (un : Int → Int) (w e : Int) (s : sS) : sS := (sp s, updI (sl s) w e, st s, se s + (e - sl s w), sc s + lc (fun j => pr w j (sp s w) (st s)) (sl s w) e, sf s + (e - sl s w) * un w, sx s)
/-- how fast a wick burns: v w l; nothing if no end is lit -/
def spd (v : Int → Int → Int) (s : sS) (w : Int) : Int := if sl s w = 0 then 0 else v w (sl s w)
def tmF (v : Int → Int → Int) (s : sS) : Int → Int → Int := fun w acc => if 0 < spd v s w then (if acc = 0 ∨ lastZ (sp s w) (spd v s w) < acc then lastZ (sp s w) (spd v s w) else acc) else acc
/-- moments to the next event; 0: none is lit -/
def tmZ (v : Int → Int → Int) (s : sS) : Int := itZ (tmF v s) 0 4
def leftZ (v : Int → Int → Int) (s : sS) (t w : Int) : Int := sp s w - spd v s w * t
def sB (v : Int → Int → Int) (t : Int) (s : sS) : sS := (fun w => if 0 < leftZ v s t w then leftZ v s t w else 0, fun w => if 0 < leftZ v s t w then sl s w else 0, st s + t, se s, sc s, sf s, sx s ++ [st s + t])
def emB (v : Int → Int → Int) (next : sS → sN → Prop) (s : sS) (n : sN) : Prop := 0 < tmZ v s ∧ (n = (st s + tmZ v s, se s, sc s, sf s, sx s) ∨ next (sB v (tmZ v s) s) n)
/-- the ends of the last k wicks are chosen (mx w at most), then it burns -/
def emW (mx : Int → Int) (pr : Int → Int → Int → Int → Int) (un : Int → Int) (burn : sS → sN → Prop) : Nat → sS → sN → Prop
  | 0, s, n => burn s n
  | k + 1, s, n => (0 < sp s (3 - k) ∧ ∃ e, sl s (3 - k) ≤ e ∧ e ≤ mx (3 - k) ∧ emW mx pr un burn k (sL pr un (3 - k) e s) n) ∨ (¬ 0 < sp s (3 - k) ∧ emW mx pr un burn k s n)
def emD (mx : Int → Int) (pr : Int → Int → Int → Int → Int) (v : Int → Int → Int) : Nat → sS → sN → Prop
  | 0, _, _ => False
  | d + 1, s, n => emW mx pr (fun _ => 0) (emB v (emD mx pr v d)) 4 s n
/-- all notes of all tellings from a beginning -/
def emT (mx : Int → Int) (pr : Int → Int → Int → Int → Int) (v : Int → Int → Int) (un : Int → Int) (s : sS) (n : sN) : Prop := emW mx pr un (emB v (emD mx pr v 4)) 4 s n
/-! fewer ends allowed: fewer notes -/
theorem emW_mono {mx mx' : Int → Int} {pr : Int → Int → Int → Int → Int} {un : Int → Int} {b b' : sS → sN → Prop} (hm : ∀ w, mx w ≤ mx' w) (hb : ∀ s n, b s n → b' s n) : ∀ (k : Nat) (s : sS) (n : sN), emW mx pr un b k s n → emW mx' pr un b' k s n
  | 0, s, n, h => hb s n h
  | k + 1, s, n, h => by
    rcases h with ⟨hp, e, h1, h2, h3⟩ | ⟨hp, h⟩
    · exact Or.inl ⟨hp, e, h1, Int.le_trans h2 (hm _), emW_mono hm hb k _ n h3⟩
    · exact Or.inr ⟨hp, emW_mono hm hb k s n h⟩
theorem emB_mono {v : Int → Int → Int} {b b' : sS → sN → Prop} (hb : ∀ s n, b s n → b' s n) (s : sS) (n : sN) (h : emB v b s n) : emB v b' s n := ⟨h.1, h.2.imp id (hb _ n)⟩
theorem emD_mono {mx mx' : Int → Int} {pr : Int → Int → Int → Int → Int} {v : Int → Int → Int} (hm : ∀ w, mx w ≤ mx' w) : ∀ (d : Nat) (s : sS) (n : sN), emD mx pr v d s n → emD mx' pr v d s n
  | 0, _, _, h => h
  | d + 1, s, n, h => emW_mono hm (emB_mono (emD_mono hm d)) 4 s n h
theorem emT_mono {mx mx' : Int → Int} {pr : Int → Int → Int → Int → Int} {v : Int → Int → Int} {un : Int → Int} (hm : ∀ w, mx w ≤ mx' w) (s : sS) (n : sN) (h : emT mx pr v un s n) : emT mx' pr v un s n := emW_mono hm (emB_mono (emD_mono hm 4)) 4 s n h
/-! an end that makes the wick no faster may be left out -/
section Dom
variable {u : Int → Int} {v : Int → Int → Int} {pr : Int → Int → Int → Int → Int}
/-- u w: the ends that are useful (1 or 2); beyond them the wick is no faster -/
def okU (u : Int → Int) (v : Int → Int → Int) : Prop := ∀ w, (u w = 1 ∧ v w 2 = v w 1) ∨ u w = 2
/-- s', with min l u ends, does all that s does, with no more ends and cost -/
def Dm (u : Int → Int) (s s' : sS) : Prop := sp s' = sp s ∧ (∀ w, (0 ≤ sl s w ∧ sl s w ≤ 2) ∧ sl s' w = min (sl s w) (u w)) ∧ st s' = st s ∧ sx s' = sx s ∧ se s' ≤ se s ∧ sc s' ≤ sc s ∧ (se s' = se s → sf s' = sf s)
theorem spd_Dm (hu : okU u v) {s s' : sS} (h : Dm u s s') (w : Int) : spd v s' w = spd v s w := by
  have h1 := h.2.1 w
  have h2 := hu w
  unfold spd
  by_cases h0 : sl s w = 0
  · rw [if_pos h0, if_pos (by rw [h1.2, h0]; rcases h2 with ⟨h3, -⟩ | h3 <;> omega)]
  · rw [if_neg h0, if_neg (by rw [h1.2]; rcases h2 with ⟨h3, -⟩ | h3 <;> omega)]
    rcases h2 with ⟨h3, h4⟩ | h3
    · have e1 : sl s' w = 1 := by rw [h1.2]; omega
      rcases (show sl s w = 1 ∨ sl s w = 2 by omega) with e2 | e2
      · rw [e1, e2]
      · rw [e1, e2, h4]
    · rw [show sl s' w = sl s w by rw [h1.2]; omega]
theorem tmZ_Dm (hu : okU u v) {s s' : sS} (h : Dm u s s') : tmZ v s' = tmZ v s := by
  unfold tmZ
  apply itZ_congr
  intro k x _ _
  unfold tmF
  rw [spd_Dm hu h, h.1]
theorem left_Dm (hu : okU u v) {s s' : sS} (h : Dm u s s') (t w : Int) : leftZ v s' t w = leftZ v s t w := by
  unfold leftZ
  rw [spd_Dm hu h, h.1]
theorem Dm.burn (hu : okU u v) {s s' : sS} (h : Dm u s s') (t : Int) : Dm u (sB v t s) (sB v t s') := by
  obtain ⟨h1, h2, h3, h4, h5, h6, h7⟩ := h
  have hl := left_Dm hu ⟨h1, h2, h3, h4, h5, h6, h7⟩
  refine ⟨?_, fun w => ?_, ?_, ?_, h5, h6, h7⟩
  · funext w
    show (if 0 < leftZ v s' t w then leftZ v s' t w else 0) = if 0 < leftZ v s t w then leftZ v s t w else 0
    rw [hl]
  · show (0 ≤ (if 0 < leftZ v s t w then sl s w else 0) ∧ (if 0 < leftZ v s t w then sl s w else 0) ≤ (2 : Int)) ∧ (if 0 < leftZ v s' t w then sl s' w else 0) = min (if 0 < leftZ v s t w then sl s w else 0) (u w)
    rw [hl]
    by_cases q : 0 < leftZ v s t w
    · rw [if_pos q, if_pos q]; exact h2 w
    · rw [if_neg q, if_neg q]
      rcases hu w with ⟨h8, -⟩ | h8 <;> omega
  · show st s' + t = st s + t
    rw [h3]
  · show sx s' ++ [st s' + t] = sx s ++ [st s + t]
    rw [h3, h4]
theorem lc_Dm {f : Int → Int} (hf : ∀ j, 0 ≤ f j) {a b u : Int} (ha : 0 ≤ a) (hu : u = 1 ∨ u = 2) : lc f (min a u) (min b u) ≤ lc f a b := by
  have h0 := hf 0
  have h1 := hf 1
  unfold lc
  by_cases c1 : min a u ≤ 0 ∧ 0 < min b u <;> by_cases c2 : min a u ≤ 1 ∧ 1 < min b u <;> by_cases c3 : a ≤ 0 ∧ 0 < b <;> by_cases c4 : a ≤ 1 ∧ 1 < b <;> simp only [c1, c2, c3, c4, if_true, if_false] <;> omega
theorem Dm.light (hu : okU u v) (hpr : ∀ w j p t, 0 ≤ pr w j p t) {un : Int → Int} {s s' : sS} (h : Dm u s s') {w e : Int} (h0 : sl s w ≤ e) (h1 : e ≤ 2) : Dm u (sL pr un w e s) (sL pr un w (min e (u w)) s') := by
  obtain ⟨g1, g2, g3, g4, g5, g6, g7⟩ := h
  have hw := g2 w
  have huw : u w = 1 ∨ u w = 2 := by rcases hu w with ⟨h8, -⟩ | h8 <;> omega
  refine ⟨g1, fun x => ?_, g3, g4, ?_, ?_, ?_⟩
  · show (0 ≤ updI (sl s) w e x ∧ updI (sl s) w e x ≤ 2) ∧ updI (sl s') w (min e (u w)) x = min (updI (sl s) w e x) (u x)
    unfold updI
    by_cases hx : x = w
    · subst hx; rw [if_pos rfl, if_pos rfl]; omega
    · rw [if_neg hx, if_neg hx]; exact g2 x
  · show se s' + (min e (u w) - sl s' w) ≤ se s + (e - sl s w)
    rw [hw.2]; omega
  · show sc s' + lc (fun j => pr w j (sp s' w) (st s')) (sl s' w) (min e (u w)) ≤ sc s + lc (fun j => pr w j (sp s w) (st s)) (sl s w) e
    rw [g1, g3, hw.2]
    have := lc_Dm (f := fun j => pr w j (sp s w) (st s)) (fun j => hpr w j _ _) (a := sl s w) (b := e) hw.1.1 huw
    omega
  · show se s' + (min e (u w) - sl s' w) = se s + (e - sl s w) → sf s' + (min e (u w) - sl s' w) * un w = sf s + (e - sl s w) * un w
    intro he
    have e1 : se s' = se s := by rw [hw.2] at he; omega
    have e2 : min e (u w) - sl s' w = e - sl s w := by omega
    rw [g7 e1, e2]
/-- n' is as good a note as n -/
def Nm (n n' : sN) : Prop := n'.1 = n.1 ∧ n'.2.1 ≤ n.2.1 ∧ n'.2.2.1 ≤ n.2.2.1 ∧ (n'.2.1 = n.2.1 → n'.2.2.2.1 = n.2.2.2.1) ∧ n'.2.2.2.2 = n.2.2.2.2
theorem emW_dom (hu : okU u v) (hpr : ∀ w j p t, 0 ≤ pr w j p t) {un : Int → Int} {b b' : sS → sN → Prop} (hb : ∀ s s' n, Dm u s s' → b s n → ∃ n', b' s' n' ∧ Nm n n') : ∀ (k : Nat) (s s' : sS) (n : sN), Dm u s s' → emW (fun _ => 2) pr un b k s n → ∃ n', emW u pr un b' k s' n' ∧ Nm n n'
  | 0, s, s', n, hD, h => hb s s' n hD h
  | k + 1, s, s', n, hD, h => by
    rcases h with ⟨hp, e, h1, h2, h3⟩ | ⟨hp, h⟩
    · obtain ⟨n', a1, a2⟩ := emW_dom hu hpr hb k _ _ n (hD.light (pr := pr) (un := un) hu hpr h1 h2) h3
      have hw := hD.2.1 (3 - k)
      refine ⟨n', Or.inl ⟨by rw [hD.1]; exact hp, _, ?_, ?_, a1⟩, a2⟩
      · rw [hw.2]; omega
      · omega
    · obtain ⟨n', a1, a2⟩ := emW_dom hu hpr hb k s s' n hD h
      exact ⟨n', Or.inr ⟨by rw [hD.1]; exact hp, a1⟩, a2⟩
theorem emB_dom (hu : okU u v) {b b' : sS → sN → Prop} (hb : ∀ s s' n, Dm u s s' → b s n → ∃ n', b' s' n' ∧ Nm n n') (s s' : sS) (n : sN) (hD : Dm u s s') (h : emB v b s n) : ∃ n', emB v b' s' n' ∧ Nm n n' := by
  have ht := tmZ_Dm hu hD
  obtain ⟨h0, h⟩ := h
  rcases h with rfl | h
  · refine ⟨_, ⟨by rw [ht]; exact h0, Or.inl rfl⟩, ?_⟩
    obtain ⟨g1, g2, g3, g4, g5, g6, g7⟩ := hD
    exact ⟨by show st s' + tmZ v s' = st s + tmZ v s; rw [ht, g3], g5, g6, g7, g4⟩
  · obtain ⟨n', a1, a2⟩ := hb _ _ n (hD.burn hu (tmZ v s)) h
    exact ⟨n', ⟨by rw [ht]; exact h0, Or.inr (by rw [ht]; exact a1)⟩, a2⟩
theorem emD_dom (hu : okU u v) (hpr : ∀ w j p t, 0 ≤ pr w j p t) : ∀ (d : Nat) (s s' : sS) (n : sN), Dm u s s' → emD (fun _ => 2) pr v d s n → ∃ n', emD u pr v d s' n' ∧ Nm n n'
  | 0, _, _, _, _, h => h.elim
  | d + 1, s, s', n, hD, h => emW_dom hu hpr (fun s s' n hD h => emB_dom hu (emD_dom hu hpr d) s s' n hD h) 4 s s' n hD h
theorem emT_dom (hu : okU u v) (hpr : ∀ w j p t, 0 ≤ pr w j p t) {un : Int → Int} {s s' : sS} {n : sN} (hD : Dm u s s') (h : emT (fun _ => 2) pr v un s n) : ∃ n', emT u pr v un s' n' ∧ Nm n n' :=
  emW_dom hu hpr (fun s s' n hD h => emB_dom hu (emD_dom hu hpr 4) s s' n hD h) 4 s s' n hD h
end Dom
