/-! THE SETS OF NOTES, in one form for class and model -/
def sup (n : Int) (s : sS) : Prop := (∀ w, ¬ (0 ≤ w ∧ w < n) → sp s w = 0 ∧ sl s w = 0) ∧ ∀ w, 0 ≤ sl s w ∧ sl s w ≤ 2
theorem sup.light {n : Int} {s : sS} (h : sup n s) {pr : Int → Int → Int → Int → Int} {un : Int → Int} {w e : Int} (hp : 0 < sp s w) (h1 : sl s w ≤ e) (h2 : e ≤ 2) : sup n (sL pr un w e s) := by
  have hw : 0 ≤ w ∧ w < n := Classical.byContradiction fun q => by rw [(h.1 w q).1] at hp; omega
  refine ⟨fun x hx => ⟨(h.1 x hx).1, ?_⟩, fun x => ?_⟩
  · show updI (sl s) w e x = 0
    rw [updI_ne (fun q : x = w => hx (by rw [q]; exact hw))]
    exact (h.1 x hx).2
  · show 0 ≤ updI (sl s) w e x ∧ updI (sl s) w e x ≤ 2
    by_cases q : x = w
    · rw [q, updI_eq]
      have := h.2 w
      omega
    · rw [updI_ne q]; exact h.2 x
theorem sup.burn {n : Int} {s : sS} (h : sup n s) {v : Int → Int → Int} {t : Int} : sup n (sB v t s) := by
  refine ⟨fun x hx => ?_, fun x => ?_⟩
  · have e : leftZ v s t x = 0 := by
      unfold leftZ spd
      rw [(h.1 x hx).1, (h.1 x hx).2, if_pos rfl]; omega
    refine ⟨?_, ?_⟩
    · show (if 0 < leftZ v s t x then leftZ v s t x else 0) = 0
      rw [e]; rfl
    · show (if 0 < leftZ v s t x then sl s x else 0) = 0
      rw [e]; rfl
  · show 0 ≤ (if 0 < leftZ v s t x then sl s x else 0) ∧ (if 0 < leftZ v s t x then sl s x else 0) ≤ 2
    split
    · exact h.2 x
    · omega
section Cg
variable {n : Int} {mx mx' : Int → Int} {pr pr' : Int → Int → Int → Int → Int} {v v' : Int → Int → Int}
theorem sL_cg {un un' : Int → Int} {w e : Int} {s : sS} (hp : pr' w = pr w) (hu : un' w = un w) : sL pr' un' w e s = sL pr un w e s := by
  unfold sL; rw [hp, hu]
theorem emW_cg {un un' : Int → Int} {b b' : sS → sN → Prop} (h4 : n ≤ 4) (hm : ∀ w, 0 ≤ w → w < n → mx' w = mx w ∧ mx w ≤ 2) (hp : ∀ w, 0 ≤ w → w < n → pr' w = pr w) (hu : ∀ w, 0 ≤ w → w < n → un' w = un w) (hb : ∀ s m, sup n s → (b' s m ↔ b s m)) : ∀ (k : Nat) (s : sS) (m : sN), k ≤ 4 → sup n s → (emW mx' pr' un' b' k s m ↔ emW mx pr un b k s m)
  | 0, s, m, _, hs => hb s m hs
  | k + 1, s, m, hk, hs => by
    by_cases q : 0 < sp s (3 - k)
    · have hw : 0 ≤ 3 - (k : Int) ∧ 3 - (k : Int) < n := Classical.byContradiction fun z => by rw [(hs.1 _ z).1] at q; omega
      have a1 := hm _ hw.1 hw.2
      constructor
      · rintro (⟨_, e, e1, e2, e3⟩ | ⟨z, _⟩)
        · rw [sL_cg (hp _ hw.1 hw.2) (hu _ hw.1 hw.2)] at e3
          exact Or.inl ⟨q, e, e1, by omega, (emW_cg h4 hm hp hu hb k _ m (by omega) (hs.light q e1 (by omega))).mp e3⟩
        · exact absurd q z
      · rintro (⟨_, e, e1, e2, e3⟩ | ⟨z, _⟩)
        · refine Or.inl ⟨q, e, e1, by omega, ?_⟩
          rw [sL_cg (hp _ hw.1 hw.2) (hu _ hw.1 hw.2)]
          exact (emW_cg h4 hm hp hu hb k _ m (by omega) (hs.light q e1 (by omega))).mpr e3
        · exact absurd q z
    · have ih := emW_cg h4 hm hp hu hb k s m (by omega) hs
      constructor
      · rintro (⟨z, _⟩ | ⟨_, z⟩)
        · exact absurd z q
        · exact Or.inr ⟨q, ih.mp z⟩
      · rintro (⟨z, _⟩ | ⟨_, z⟩)
        · exact absurd z q
        · exact Or.inr ⟨q, ih.mpr z⟩
theorem spd_cg (hv : ∀ w l, 0 ≤ w → w < n → 1 ≤ l → l ≤ 2 → v' w l = v w l) {s : sS} (hs : sup n s) (w : Int) : spd v' s w = spd v s w := by
  unfold spd
  by_cases h : sl s w = 0
  · rw [if_pos h, if_pos h]
  · rw [if_neg h, if_neg h]
    have hw : 0 ≤ w ∧ w < n := Classical.byContradiction fun z => h (hs.1 w z).2
    have := hs.2 w
    exact hv w _ hw.1 hw.2 (by omega) (by omega)
theorem tmZ_cg (hv : ∀ w l, 0 ≤ w → w < n → 1 ≤ l → l ≤ 2 → v' w l = v w l) {s : sS} (hs : sup n s) : tmZ v' s = tmZ v s := by
  unfold tmZ
  exact itZ_congr fun k x _ _ => by unfold tmF; rw [spd_cg hv hs]
theorem sB_cg (hv : ∀ w l, 0 ≤ w → w < n → 1 ≤ l → l ≤ 2 → v' w l = v w l) {s : sS} (hs : sup n s) (t : Int) : sB v' t s = sB v t s := by
  have e : ∀ w, leftZ v' s t w = leftZ v s t w := fun w => by unfold leftZ; rw [spd_cg hv hs]
  refine Prod.ext (funext fun w => ?_) (Prod.ext (funext fun w => ?_) rfl)
  · show (if 0 < leftZ v' s t w then leftZ v' s t w else 0) = (if 0 < leftZ v s t w then leftZ v s t w else 0)
    rw [e w]
  · show (if 0 < leftZ v' s t w then sl s w else 0) = (if 0 < leftZ v s t w then sl s w else 0)
    rw [e w]
theorem emB_cg (hv : ∀ w l, 0 ≤ w → w < n → 1 ≤ l → l ≤ 2 → v' w l = v w l) {b b' : sS → sN → Prop} (hb : ∀ s m, sup n s → (b' s m ↔ b s m)) (s : sS) (m : sN) (hs : sup n s) : emB v' b' s m ↔ emB v b s m := by
  unfold emB
  rw [tmZ_cg hv hs, sB_cg hv hs]
  exact ⟨fun h => ⟨h.1, h.2.imp id (hb _ m hs.burn).mp⟩, fun h => ⟨h.1, h.2.imp id (hb _ m hs.burn).mpr⟩⟩
theorem emD_cg (h4 : n ≤ 4) (hm : ∀ w, 0 ≤ w → w < n → mx' w = mx w ∧ mx w ≤ 2) (hp : ∀ w, 0 ≤ w → w < n → pr' w = pr w) (hv : ∀ w l, 0 ≤ w → w < n → 1 ≤ l → l ≤ 2 → v' w l = v w l) : ∀ (d : Nat) (s : sS) (m : sN), sup n s → (emD mx' pr' v' d s m ↔ emD mx pr v d s m)
  | 0, _, _, _ => Iff.rfl
  | d + 1, s, m, hs => emW_cg h4 hm hp (fun _ _ _ => rfl) (fun s m hs => emB_cg hv (emD_cg h4 hm hp hv d) s m hs) 4 s m (by omega) hs
theorem emT_cg {un un' : Int → Int} (h4 : n ≤ 4) (hm : ∀ w, 0 ≤ w → w < n → mx' w = mx w ∧ mx w ≤ 2) (hp : ∀ w, 0 ≤ w → w < n → pr' w = pr w) (hu : ∀ w, 0 ≤ w → w < n → un' w = un w) (hv : ∀ w l, 0 ≤ w → w < n → 1 ≤ l → l ≤ 2 → v' w l = v w l) {s : sS} {m : sN} (hs : sup n s) : emT mx' pr' v' un' s m ↔ emT mx pr v un s m :=
  emW_cg h4 hm hp hu (fun s m hs => emB_cg hv (emD_cg h4 hm hp hv 4) s m hs) 4 s m (by omega) hs
end Cg
/-! what notes may be -/
def BD (x y : Int) (s : sS) (m : sN) : Prop := (se s ≤ m.2.1 ∧ m.2.1 ≤ se s + x) ∧ (sf s ≤ m.2.2.2.1 ∧ m.2.2.2.1 ≤ sf s + y) ∧ (sc s ≤ m.2.2.1 ∧ m.2.2.1 ≤ sc s + 99 * x)
section Bd
variable {n : Int} {mx : Int → Int} {pr : Int → Int → Int → Int → Int} {v : Int → Int → Int}
theorem emW_bd {un : Int → Int} {b : sS → sN → Prop} {x y u : Int} (hm : ∀ w, 0 ≤ w → w < n → mx w ≤ 2) (hp : ∀ w j p t, 0 ≤ pr w j p t ∧ pr w j p t ≤ 99) (hu : ∀ w, 0 ≤ w → w < n → 0 ≤ un w ∧ un w ≤ u) (hb : ∀ s m, sup n s → b s m → BD x y s m) (hu0 : 0 ≤ u) : ∀ (k : Nat) (s : sS) (m : sN), sup n s → emW mx pr un b k s m → BD (x + 2 * k) (y + 2 * u * k) s m
  | 0, s, m, hs, h => by
    have := hb s m hs h
    rw [show x + 2 * ((0 : Nat) : Int) = x by omega, show y + 2 * u * ((0 : Nat) : Int) = y by simp]
    exact this
  | k + 1, s, m, hs, h => by
    have e1 : y + 2 * u * ((k + 1 : Nat) : Int) = y + 2 * u * k + 2 * u := by rw [show ((k + 1 : Nat) : Int) = (k : Int) + 1 by omega, Int.mul_add]; omega
    rw [e1]
    rcases h with ⟨q, e, a1, a2, h⟩ | ⟨q, h⟩
    · have hw : 0 ≤ 3 - (k : Int) ∧ 3 - (k : Int) < n := Classical.byContradiction fun z => by rw [(hs.1 _ z).1] at q; omega
      have h2 := hm _ hw.1 hw.2
      have h3 := hu _ hw.1 hw.2
      have h5 := hs.2 (3 - k)
      have ih := emW_bd hm hp hu hb hu0 k _ m (hs.light q a1 (by omega)) h
      obtain ⟨⟨i1, i2⟩, ⟨i3, i4⟩, i5, i6⟩ := ih
      have i1 : se s + (e - sl s (3 - k)) ≤ m.2.1 := i1
      have i2 : m.2.1 ≤ se s + (e - sl s (3 - k)) + (x + 2 * k) := i2
      have i3 : sf s + (e - sl s (3 - k)) * un (3 - k) ≤ m.2.2.2.1 := i3
      have i4 : m.2.2.2.1 ≤ sf s + (e - sl s (3 - k)) * un (3 - k) + (y + 2 * u * k) := i4
      have i5 : sc s + lc (fun j => pr (3 - k) j (sp s (3 - k)) (st s)) (sl s (3 - k)) e ≤ m.2.2.1 := i5
      have i6 : m.2.2.1 ≤ sc s + lc (fun j => pr (3 - k) j (sp s (3 - k)) (st s)) (sl s (3 - k)) e + 99 * (x + 2 * k) := i6
      have hl := lc_rg (f := fun j => pr (3 - (k : Int)) j (sp s (3 - k)) (st s)) (fun j => hp _ j _ _) h5.1 a1 (by omega)
      have hq : 0 ≤ (e - sl s (3 - k)) * un (3 - k) ∧ (e - sl s (3 - k)) * un (3 - k) ≤ 2 * u := by
        rcases (show e - sl s (3 - (k : Int)) = 0 ∨ e - sl s (3 - (k : Int)) = 1 ∨ e - sl s (3 - (k : Int)) = 2 by omega) with z | z | z <;> rw [z] <;> omega
      exact ⟨by omega, by omega, by omega⟩
    · obtain ⟨⟨i1, i2⟩, ⟨i3, i4⟩, i5, i6⟩ := emW_bd hm hp hu hb hu0 k s m hs h
      exact ⟨by omega, by omega, by omega⟩
theorem emB_bd {b : sS → sN → Prop} {x y : Int} (hx : 0 ≤ x) (hy : 0 ≤ y) (hb : ∀ s m, sup n s → b s m → BD x y s m) (s : sS) (m : sN) (hs : sup n s) (h : emB v b s m) : BD x y s m := by
  rcases h.2 with e | h
  · subst e
    exact ⟨⟨Int.le_refl _, by show se s ≤ se s + x; omega⟩, ⟨Int.le_refl _, by show sf s ≤ sf s + y; omega⟩, Int.le_refl _, by show sc s ≤ sc s + 99 * x; omega⟩
  · have := hb _ m (hs.burn (v := v) (t := tmZ v s)) h
    exact this
theorem emD_bd (hm : ∀ w, 0 ≤ w → w < n → mx w ≤ 2) (hp : ∀ w j p t, 0 ≤ pr w j p t ∧ pr w j p t ≤ 99) : ∀ (d : Nat) (s : sS) (m : sN), sup n s → emD mx pr v d s m → BD (8 * d) 0 s m
  | 0, _, _, _, h => h.elim
  | d + 1, s, m, hs, h => by
    have := emW_bd (x := 8 * d) (y := 0) (u := 0) hm hp (fun _ _ _ => ⟨Int.le_refl 0, Int.le_refl 0⟩) (fun s m hs h => emB_bd (by omega) (by omega) (emD_bd hm hp d) s m hs h) (Int.le_refl 0) 4 s m hs h
    rw [show ((8 : Int) * ((d + 1 : Nat) : Int)) = 8 * (d : Int) + 2 * ((4 : Nat) : Int) by omega]
    exact this
theorem emT_bd {un : Int → Int} (hm : ∀ w, 0 ≤ w → w < n → mx w ≤ 2) (hp : ∀ w j p t, 0 ≤ pr w j p t ∧ pr w j p t ≤ 99) (hu : ∀ w, 0 ≤ w → w < n → 0 ≤ un w ∧ un w ≤ 1000) {s : sS} {m : sN} (hs : sup n s) (h : emT mx pr v un s m) : BD 40 8000 s m := by
  have := emW_bd (x := 8 * (4 : Nat)) (y := 0) (u := 1000) hm hp hu (fun s m hs h => emB_bd (by omega) (by omega) (emD_bd hm hp 4) s m hs h) (by omega) 4 s m hs h
  exact this
end Bd
/-! prices change costs alone -/
def wc (s : sS) (c : Int) : sS := (sp s, sl s, st s, se s, c, sf s, sx s)
def nc (m m' : sN) : Prop := m'.1 = m.1 ∧ m'.2.1 = m.2.1 ∧ m'.2.2.2 = m.2.2.2
theorem emW_pr {mx : Int → Int} {pr pr' : Int → Int → Int → Int → Int} {un : Int → Int} {b b' : sS → sN → Prop} (hb : ∀ s m c, b s m → ∃ m', b' (wc s c) m' ∧ nc m m') : ∀ (k : Nat) (s : sS) (m : sN) (c : Int), emW mx pr un b k s m → ∃ m', emW mx pr' un b' k (wc s c) m' ∧ nc m m'
  | 0, s, m, c, h => hb s m c h
  | k + 1, s, m, c, h => by
    rcases h with ⟨q, e, a1, a2, h⟩ | ⟨q, h⟩
    · obtain ⟨m', h1, h2⟩ := emW_pr (pr' := pr') hb k _ m (c + lc (fun j => pr' (3 - k) j (sp s (3 - k)) (st s)) (sl s (3 - k)) e) h
      exact ⟨m', Or.inl ⟨q, e, a1, a2, h1⟩, h2⟩
    · obtain ⟨m', h1, h2⟩ := emW_pr (pr' := pr') hb k s m c h
      exact ⟨m', Or.inr ⟨q, h1⟩, h2⟩
theorem emB_pr {v : Int → Int → Int} {b b' : sS → sN → Prop} (hb : ∀ s m c, b s m → ∃ m', b' (wc s c) m' ∧ nc m m') (s : sS) (m : sN) (c : Int) (h : emB v b s m) : ∃ m', emB v b' (wc s c) m' ∧ nc m m' := by
  obtain ⟨h0, h⟩ := h
  rcases h with e | h
  · subst e
    exact ⟨(st s + tmZ v s, se s, c, sf s, sx s), ⟨h0, Or.inl rfl⟩, rfl, rfl, rfl⟩
  · obtain ⟨m', h1, h2⟩ := hb _ m c h
    exact ⟨m', ⟨h0, Or.inr h1⟩, h2⟩
theorem emD_pr {mx : Int → Int} {pr pr' : Int → Int → Int → Int → Int} {v : Int → Int → Int} : ∀ (d : Nat) (s : sS) (m : sN) (c : Int), emD mx pr v d s m → ∃ m', emD mx pr' v d (wc s c) m' ∧ nc m m'
  | 0, _, _, _, h => h.elim
  | d + 1, s, m, c, h => emW_pr (fun s m c h => emB_pr (emD_pr d) s m c h) 4 s m c h
theorem emT_pr {mx : Int → Int} {pr pr' : Int → Int → Int → Int → Int} {v : Int → Int → Int} {un : Int → Int} {s : sS} {m : sN} (h : emT mx pr v un s m) : ∃ m', emT mx pr' v un s m' ∧ nc m m' :=
  emW_pr (fun s m c h => emB_pr (emD_pr 4) s m c h) 4 s m (sc s) h
/-! the sets, from the wicks -/
abbrev UT : Int := 2147483647
def vZ (K N : Int → Int) (q : Int) : Int → Int → Int := fun w l => fastZ (K w) (N w) l q
def uZ (v : Int → Int → Int) (w : Int) : Int := if v w 1 < v w 2 then 2 else 1
def unN (n : Int) : Nat → Int
  | 0 => 1
  | k + 1 => unN n k * (if 3 - (k : Int) < n then 10 else 1)
def unZ (n w : Int) : Int := unN n (3 - w).toNat
def stS (n s : Int) (P : Int → Int) : sS := (fun w => if (0 ≤ w ∧ w < n) ∧ bitZ s w = 1 then P w else 0, fun _ => 0, 0, 0, 0, 0, [0])
theorem stS_sup {n s : Int} {P : Int → Int} : sup n (stS n s P) := ⟨fun w hw => ⟨if_neg (fun q => hw q.1), rfl⟩, fun w => ⟨Int.le_refl 0, by show (0 : Int) ≤ 2; omega⟩⟩
theorem uZ_rg {v : Int → Int → Int} {w : Int} : 1 ≤ uZ v w ∧ uZ v w ≤ 2 := by unfold uZ; split <;> omega
theorem unN_rg (n : Int) : ∀ k : Nat, k ≤ 3 → 1 ≤ unN n k ∧ unN n k ≤ (if k = 0 then 1 else if k = 1 then 10 else if k = 2 then 100 else 1000)
  | 0, _ => ⟨Int.le_refl 1, Int.le_refl 1⟩
  | k + 1, h => by
    have ih := unN_rg n k (by omega)
    unfold unN
    rcases (show k = 0 ∨ k = 1 ∨ k = 2 by omega) with e | e | e <;> subst e <;> simp at ih ⊢ <;> split <;> omega
theorem unZ_rg {n w : Int} (h0 : 0 ≤ w) (h1 : w < 4) : 0 ≤ unZ n w ∧ unZ n w ≤ 1000 := by
  have := unN_rg n (3 - w).toNat (by omega)
  unfold unZ
  refine ⟨by omega, Int.le_trans this.2 ?_⟩
  repeat' split
  all_goals omega
theorem fastZ_mono {k n d : Int} : fastZ k n 1 d ≤ fastZ k n 2 d := by
  have h3 := Int.lt_tmod_of_pos n (show (0 : Int) < 3 by omega)
  unfold fastZ
  rw [if_neg (by omega), if_neg (by omega)]
  unfold fastB
  repeat' split
  all_goals omega
theorem okU_vZ {K N : Int → Int} {q : Int} : okU (uZ (vZ K N q)) (vZ K N q) := fun w => by
  have : vZ K N q w 1 ≤ vZ K N q w 2 := fastZ_mono
  unfold uZ
  split
  · exact Or.inr rfl
  · exact Or.inl ⟨rfl, by omega⟩
theorem Dm_rfl {u : Int → Int} {n s : Int} {P : Int → Int} (hu : ∀ w, 1 ≤ u w) : Dm u (stS n s P) (stS n s P) := ⟨rfl, fun w => ⟨⟨Int.le_refl 0, by show (0 : Int) ≤ 2; omega⟩, by show (0 : Int) = min 0 (u w); have := hu w; omega⟩, rfl, rfl, Int.le_refl _, Int.le_refl _, fun _ => rfl⟩
/-- class's set, model's set -/
def SC (n s : Int) (P : Int → Int) (v : Int → Int → Int) (pr : Int → Int → Int → Int → Int) : sN → Prop := emT (uZ v) pr v (unZ n) (stS n s P)
def SM (n s : Int) (P : Int → Int) (v : Int → Int → Int) (pr : Int → Int → Int → Int → Int) : sN → Prop := emT (fun _ => 2) pr v (unZ n) (stS n s P)
section Same
variable {n s q : Int} {P K N : Int → Int} {pr pr' : Int → Int → Int → Int → Int}
theorem SC_bd (h0 : n ≤ 4) (hp : ∀ w j p t, 0 ≤ pr w j p t ∧ pr w j p t ≤ 99) {v : Int → Int → Int} {m : sN} (h : SC n s P v pr m) : (0 ≤ m.2.1 ∧ m.2.1 ≤ 40) ∧ (0 ≤ m.2.2.2.1 ∧ m.2.2.2.1 ≤ 8000) ∧ (0 ≤ m.2.2.1 ∧ m.2.2.1 ≤ 3960) := by
  obtain ⟨⟨a, b⟩, ⟨c, d⟩, e, f⟩ := emT_bd (n := n) (fun w _ _ => uZ_rg.2) hp (fun w a b => unZ_rg a (by omega)) stS_sup h
  have a : (0 : Int) ≤ m.2.1 := a
  have b : m.2.1 ≤ 0 + 40 := b
  have c : (0 : Int) ≤ m.2.2.2.1 := c
  have d : m.2.2.2.1 ≤ 0 + 8000 := d
  have e : (0 : Int) ≤ m.2.2.1 := e
  have f : m.2.2.1 ≤ 0 + 99 * 40 := f
  omega
theorem SM_bd (h0 : n ≤ 4) (hp : ∀ w j p t, 0 ≤ pr w j p t ∧ pr w j p t ≤ 99) {v : Int → Int → Int} {m : sN} (h : SM n s P v pr m) : (0 ≤ m.2.1 ∧ m.2.1 ≤ 40) ∧ (0 ≤ m.2.2.2.1 ∧ m.2.2.2.1 ≤ 8000) ∧ (0 ≤ m.2.2.1 ∧ m.2.2.1 ≤ 3960) := by
  obtain ⟨⟨a, b⟩, ⟨c, d⟩, e, f⟩ := emT_bd (n := n) (fun w _ _ => Int.le_refl 2) hp (fun w a b => unZ_rg a (by omega)) stS_sup h
  have a : (0 : Int) ≤ m.2.1 := a
  have b : m.2.1 ≤ 0 + 40 := b
  have c : (0 : Int) ≤ m.2.2.2.1 := c
  have d : m.2.2.2.1 ≤ 0 + 8000 := d
  have e : (0 : Int) ≤ m.2.2.1 := e
  have f : m.2.2.1 ≤ 0 + 99 * 40 := f
  omega
theorem SC_SM {m : sN} (h : SC n s P (vZ K N q) pr m) : SM n s P (vZ K N q) pr m := emT_mono (fun w => uZ_rg.2) _ m h
theorem SM_SC (hp : ∀ w j p t, 0 ≤ pr w j p t) {m : sN} (h : SM n s P (vZ K N q) pr m) : ∃ m', SC n s P (vZ K N q) pr m' ∧ Nm m m' := emT_dom okU_vZ hp (Dm_rfl (fun w => uZ_rg.1)) h
theorem same_E (h0 : n ≤ 4) (hp : ∀ w j p t, 0 ≤ pr w j p t ∧ pr w j p t ≤ 99) (hp' : ∀ w j p t, 0 ≤ pr' w j p t ∧ pr' w j p t ≤ 99) {x a b : Int} (h1 : Lst (SC n s P (vZ K N q) pr) kyE x UT a) (h2 : Lst (SM n s P (vZ K N q) pr') kyE x UT b) : a = b := by
  refine Lst.uniq (Lst.same (fun m hm hx => ?_) (fun m hm hx => ?_) h1) h2
  · obtain ⟨m', g1, g2⟩ := emT_pr (pr' := pr') hm
    refine ⟨m', SC_SM g1, by rw [g2.1]; exact hx, ?_⟩
    show m'.2.1 * 10000 + m'.2.2.2.1 ≤ m.2.1 * 10000 + m.2.2.2.1
    rw [g2.2.1, g2.2.2]; exact Int.le_refl _
  · obtain ⟨m1, g1, g2⟩ := SM_SC (fun w j p t => (hp' w j p t).1) hm
    obtain ⟨m', g3, g4⟩ := emT_pr (pr' := pr) g1
    refine ⟨m', g3, by rw [g4.1, g2.1]; exact hx, ?_⟩
    show m'.2.1 * 10000 + m'.2.2.2.1 ≤ m.2.1 * 10000 + m.2.2.2.1
    rw [g4.2.1, g4.2.2]
    have b1 := SC_bd h0 hp' g1
    have b2 := SM_bd h0 hp' hm
    have := g2.2.1
    by_cases he : m1.2.1 = m.2.1
    · rw [he, g2.2.2.2.1 he]; exact Int.le_refl _
    · omega
theorem same_C (hp : ∀ w j p t, 0 ≤ pr w j p t) {x a b : Int} (h1 : Lst (SC n s P (vZ K N q) pr) kyC x UT a) (h2 : Lst (SM n s P (vZ K N q) pr) kyC x UT b) : a = b := by
  refine Lst.uniq (Lst.same (fun m hm hx => ⟨m, SC_SM hm, hx, Int.le_refl _⟩) (fun m hm hx => ?_) h1) h2
  obtain ⟨m1, g1, g2⟩ := SM_SC hp hm
  exact ⟨m1, g1, by rw [g2.1]; exact hx, g2.2.2.1⟩
theorem same_A (hp' : ∀ w j p t, 0 ≤ pr' w j p t) {x a b : Int} (h1 : Apt (SC n s P (vZ K N q) pr) x 0 a) (h2 : Apt (SM n s P (vZ K N q) pr') x 0 b) : a = 1 ↔ b = 1 := by
  rw [h1.2, h2.2]
  refine or_congr Iff.rfl ⟨fun ⟨m, hm, u, hu, e⟩ => ?_, fun ⟨m, hm, u, hu, e⟩ => ?_⟩
  · obtain ⟨m', g1, g2⟩ := emT_pr (pr' := pr') hm
    exact ⟨m', SC_SM g1, u, by rw [g2.2.2]; exact hu, by rw [g2.1]; exact e⟩
  · obtain ⟨m1, g1, g2⟩ := SM_SC hp' hm
    obtain ⟨m', g3, g4⟩ := emT_pr (pr' := pr) g1
    exact ⟨m', g3, u, by rw [g4.2.2, g2.2.2.2.2]; exact hu, by rw [g4.1, g2.1]; exact e⟩
end Same
