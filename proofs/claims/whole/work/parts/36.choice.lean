/-! CHOOSING, of the class: what is known ahead of it, what it does to the rows -/
abbrev kyE (n : sN) : Int := n.2.1 * 10000 + n.2.2.2.1
abbrev kyC (n : sN) : Int := n.2.2.1
def UpdC (M : fM) (S : sN → Prop) (N : fM) : Prop := ∀ x, 0 ≤ x → x < 403 → Lst S kyE x (M 40 x) (N 40 x) ∧ Lst S kyC x (M 41 x) (N 41 x) ∧ Apt S x (M 42 x) (N 42 x)
theorem UpdC.id {M N : fM} {S : sN → Prop} (h : ∀ n, ¬ S n) (e : ∀ c, 40 ≤ c → c ≤ 42 → N c = M c) : UpdC M S N := fun x _ _ => by
  rw [e 40 (by omega) (by omega), e 41 (by omega) (by omega), e 42 (by omega) (by omega)]
  exact ⟨Lst.id (fun n a _ => h n a), Lst.id (fun n a _ => h n a), Apt.id h⟩
theorem UpdC.comp {M N K : fM} {S1 S2 S : sN → Prop} (hS : ∀ n, S n ↔ S1 n ∨ S2 n) (h1 : UpdC M S1 N) (h2 : UpdC N S2 K) : UpdC M S K := fun x x0 x1 =>
  ⟨(h1 x x0 x1).1.comp hS (h2 x x0 x1).1, (h1 x x0 x1).2.1.comp hS (h2 x x0 x1).2.1, (h1 x x0 x1).2.2.comp hS (h2 x x0 x1).2.2⟩
theorem UpdC.eq {M M' N N' : fM} {S : sN → Prop} (h : UpdC M S N) (e1 : ∀ c, 40 ≤ c → c ≤ 42 → M' c = M c) (e2 : ∀ c, 40 ≤ c → c ≤ 42 → N' c = N c) : UpdC M' S N' := fun x x0 x1 => by
  rw [e1 40 (by omega) (by omega), e1 41 (by omega) (by omega), e1 42 (by omega) (by omega), e2 40 (by omega) (by omega), e2 41 (by omega) (by omega), e2 42 (by omega) (by omega)]
  exact h x x0 x1
theorem UpdC.congr {M N : fM} {S S' : sN → Prop} (hS : ∀ n, S' n ↔ S n) (h : UpdC M S N) : UpdC M S' N := fun x x0 x1 =>
  ⟨(h x x0 x1).1.congr hS, (h x x0 x1).2.1.congr hS, (h x x0 x1).2.2.congr hS⟩
/-- what stays as it was -/
def Fr (dp : Int) (M N : fM) : Prop := (∀ c, c ≠ 35 → c ≠ 36 → (c < 40 ∨ 47 < c ∨ c = 46) → N c = M c) ∧ (∀ i, 0 ≤ i → i < dp * 4 + 4 → N 43 i = M 43 i ∧ N 44 i = M 44 i) ∧ (∀ i, 0 ≤ i → i < dp * 8 + 8 → N 45 i = M 45 i) ∧ (∀ j, 0 ≤ j → j < dp → N 47 j = M 47 j) ∧ (M 39 12 = 0 → ∀ i, 0 ≤ i → i < 40 → N 45 i = M 45 i)
theorem Fr.refl {dp : Int} {M : fM} : Fr dp M M := ⟨fun _ _ _ _ => rfl, fun _ _ _ => ⟨rfl, rfl⟩, fun _ _ _ => rfl, fun _ _ _ => rfl, fun _ _ _ _ => rfl⟩
theorem Fr.c {dp : Int} {M N : fM} (h : Fr dp M N) (c : Nat) (h1 : c ≠ 35 ∧ c ≠ 36 ∧ (c < 40 ∨ 47 < c ∨ c = 46)) : N c = M c := h.1 c h1.1 h1.2.1 h1.2.2
theorem Fr.trans {dp : Int} {M N K : fM} (h1 : Fr dp M N) (h2 : Fr dp N K) : Fr dp M K := by
  have e39 : N 39 = M 39 := h1.c 39 (by decide)
  refine ⟨fun c a b e => by rw [h2.1 c a b e, h1.1 c a b e], fun i a b => ?_, fun i a b => by rw [h2.2.2.1 i a b, h1.2.2.1 i a b], fun j a b => by rw [h2.2.2.2.1 j a b, h1.2.2.2.1 j a b], fun z i a b => ?_⟩
  · rw [(h2.2.1 i a b).1, (h2.2.1 i a b).2]; exact h1.2.1 i a b
  · rw [h2.2.2.2.2 (by rw [e39]; exact z) i a b, h1.2.2.2.2 z i a b]
theorem Fr.down {dp dp' : Int} {M N : fM} (h : Fr dp M N) (hd : dp' ≤ dp) : Fr dp' M N :=
  ⟨h.1, fun i a b => h.2.1 i a (by omega), fun i a b => h.2.2.1 i a (by omega), fun j a b => h.2.2.2.1 j a (by omega), h.2.2.2.2⟩
def evX (M : fM) : Nat → List Int
  | 0 => [0]
  | k + 1 => evX M k ++ [M 47 k]
theorem evX_eq {M N : fM} : ∀ k : Nat, (∀ j : Int, 0 ≤ j → j < k → N 47 j = M 47 j) → evX N k = evX M k
  | 0, _ => rfl
  | k + 1, h => by
    show evX N k ++ [N 47 k] = evX M k ++ [M 47 k]
    rw [evX_eq k (fun j a b => h j a (by omega)), h k (by omega) (by omega)]
theorem evX_mem {M : fM} {u : Int} : ∀ k : Nat, u ∈ evX M k ↔ u = 0 ∨ ∃ j : Int, 0 ≤ j ∧ j < k ∧ u = M 47 j
  | 0 => by
    show u ∈ [(0 : Int)] ↔ _
    rw [List.mem_singleton]
    exact ⟨Or.inl, fun h => h.elim (fun q => q) (fun ⟨j, a, b, _⟩ => by omega)⟩
  | k + 1 => by
    show u ∈ evX M k ++ [M 47 k] ↔ _
    rw [List.mem_append, List.mem_singleton, evX_mem k]
    constructor
    · rintro ((h | ⟨j, a, b, e⟩) | h)
      · exact Or.inl h
      · exact Or.inr ⟨j, a, by omega, e⟩
      · exact Or.inr ⟨k, by omega, by omega, h⟩
    · rintro (h | ⟨j, a, b, e⟩)
      · exact Or.inl (Or.inl h)
      · by_cases hj : j = k
        · subst hj; exact Or.inr e
        · exact Or.inl (Or.inr ⟨j, a, by omega, e⟩)
def prX (M : fM) (v : pV) (w l p t : Int) : Int := if M 39 12 = 0 then 0 else prZ M v w l p t
theorem prX_rg {M : fM} {v : pV} {w l p t : Int} : 0 ≤ prX M v w l p t ∧ prX M v w l p t ≤ 99 := by
  unfold prX
  split
  · omega
  · exact prZ_rg
def unD (M : fM) (dp : Int) : Int → Int := if dp = 0 then M 48 else fun _ => 0
theorem prX_eq {M N : fM} {v : pV} (h39 : N 39 = M 39) (h1 : N 1 = M 1) (h4 : N 4 = M 4) (h6 : N 6 = M 6) : prX N v = prX M v := by
  funext w l p t
  unfold prX prZ
  rw [h39, h1, h4, h6]
theorem unD_eq {M N : fM} {dp : Int} (h : N 48 = M 48) : unD N dp = unD M dp := by unfold unD; rw [h]
theorem useZ_eq {M N : fM} (h : N 46 = M 46) : useZ N = useZ M := by funext w; unfold useZ; rw [h]
theorem tV_eq {M N : fM} (h : N 46 = M 46) : tV N = tV M := by funext w l; unfold tV; rw [h]
def cn1 (p : Int) : Int := if 0 < p then 1 else 0
theorem cn1_rg (p : Int) : 0 ≤ cn1 p ∧ cn1 p ≤ 1 := by unfold cn1; split <;> omega
theorem cn1_mono {p q : Int} (h : 0 < p → 0 < q) : cn1 p ≤ cn1 q := by
  unfold cn1
  by_cases hp : 0 < p
  · rw [if_pos hp, if_pos (h hp)]; omega
  · rw [if_neg hp]; split <;> omega
def cnS (P : Int → Int) : Int := cn1 (P 0) + cn1 (P 1) + cn1 (P 2) + cn1 (P 3)
theorem cnS_drop {P Q : Int → Int} (h : ∀ w, 0 ≤ w → w < 4 → 0 < P w → 0 < Q w) {w : Int} (h0 : 0 ≤ w) (h1 : w < 4) (hq : 0 < Q w) (hp : ¬ 0 < P w) : cnS P + 1 ≤ cnS Q := by
  have a0 := cn1_mono (h 0 (by omega) (by omega))
  have a1 := cn1_mono (h 1 (by omega) (by omega))
  have a2 := cn1_mono (h 2 (by omega) (by omega))
  have a3 := cn1_mono (h 3 (by omega) (by omega))
  have b1 : cn1 (P w) = 0 := if_neg hp
  have b2 : cn1 (Q w) = 1 := if_pos hq
  unfold cnS
  rcases (show w = 0 ∨ w = 1 ∨ w = 2 ∨ w = 3 by omega) with e | e | e | e <;> subst e <;> omega
theorem cnS_zero {P : Int → Int} (h : cnS P ≤ 0) {w : Int} (h0 : 0 ≤ w) (h1 : w < 4) : ¬ 0 < P w := fun hp => by
  have b2 : cn1 (P w) = 1 := if_pos hp
  have a0 := cn1_rg (P 0)
  have a1 := cn1_rg (P 1)
  have a2 := cn1_rg (P 2)
  have a3 := cn1_rg (P 3)
  unfold cnS at h
  rcases (show w = 0 ∨ w = 1 ∨ w = 2 ∨ w = 3 by omega) with e | e | e | e <;> subst e <;> omega
/-- what never changes in a search -/
def tStat (M : fM) (v : pV) : Prop := WfK M ∧ (1 ≤ M 19 7 ∧ M 19 7 ≤ 6) ∧ (0 ≤ M 1 8 ∧ M 1 8 < M 19 7) ∧ TXs M (M 1 8) 0 v ∧ ∀ w, 0 ≤ w → w < 4 → 0 ≤ M 48 w ∧ M 48 w ≤ 1000
theorem tStat.eq {M N : fM} {v : pV} (h : tStat M v) (e : ∀ c, c ≠ 35 → c ≠ 36 → (c < 40 ∨ c = 48) → N c = M c) : tStat N v := by
  obtain ⟨h1, h2, h3, h4, h5⟩ := h
  have e1 := e 1 (by decide) (by decide) (by decide)
  refine ⟨?_, by rw [e 19 (by decide) (by decide) (by decide)]; exact h2, by rw [e1, e 19 (by decide) (by decide) (by decide)]; exact h3, ?_, by rw [e 48 (by decide) (by decide) (by decide)]; exact h5⟩
  · have h1 : WfC M 1 := h1
    show WfC N 1
    unfold WfC at *
    rw [e1, e (1 + 1) (by decide) (by decide) (by decide), e (1 + 2) (by decide) (by decide) (by decide), e (1 + 3) (by decide) (by decide) (by decide), e (1 + 4) (by decide) (by decide) (by decide), e (1 + 5) (by decide) (by decide) (by decide)]
    exact h1
  · rw [e1]
    exact TXs_congr (by omega) (fun c a b => e c (by omega) (by omega) (by omega)) h4
def tRow (M : fM) (dp : Int) : Prop := tR M dp ∧ cnS (fun w => M 43 (dp * 4 + w)) ≤ 4 - dp ∧ ∀ w, 0 ≤ w → w < 4 → 0 < M 43 (dp * 4 + w) → w < M 1 5
def tEv (M : fM) (dp t : Int) : Prop := (0 ≤ dp ∧ dp ≤ 4) ∧ (0 ≤ t ∧ t ≤ 99 * dp) ∧ ∀ j, 0 ≤ j → j < dp → 0 ≤ M 47 j ∧ M 47 j ≤ t
def tBd (dp g e c f : Int) : Prop := (0 ≤ g ∧ g ≤ 4) ∧ (0 ≤ e ∧ e ≤ 8 * dp + 2 * g) ∧ (0 ≤ c ∧ c ≤ 99 * (8 * dp + 2 * g)) ∧ 0 ≤ f ∧ f ≤ 8000 ∧ (dp = 0 → f ≤ 2000 * g)
def tL0 (M : fM) (dp g : Int) : Prop := dp = 0 → ∀ w, g ≤ w → w < 4 → M 44 w = 0
def tPr (M : fM) (v : pV) (dp g t : Int) : Prop := (∀ w l, g ≤ w → w < 4 → 0 < M 43 (dp * 4 + w) → M 44 (dp * 4 + w) ≤ l → 0 ≤ l → l < 2 → M 45 ((dp * 4 + w) * 2 + l) = prX M v w l (M 43 (dp * 4 + w)) t) ∧ (M 39 12 = 0 → ∀ i, 0 ≤ i → i < 40 → M 45 i = 0)
def tOk (M : fM) (v : pV) (dp g t e c f : Int) : Prop := tStat M v ∧ tRow M dp ∧ tEv M dp t ∧ tBd dp g e c f ∧ tL0 M dp g ∧ tPr M v dp g t
abbrev chB (M : fM) (v : pV) (dp : Int) : sS → sN → Prop := emB (tV M) (emD (useZ M) (prX M v) (tV M) (4 - dp).toNat)
def chS (M : fM) (v : pV) (dp g t e c f : Int) : sN → Prop := emW (useZ M) (prX M v) (unD M dp) (chB M v dp) (4 - g).toNat (tS M dp t e c f (evX M dp.toNat))
def chP (M : fM) (v : pV) (dp g t e c f : Int) (N : fM) : Prop := UpdC M (chS M v dp g t e c f) N ∧ Fr dp M N
def uS (M : fM) (v : pV) (dp t e c f : Int) : sN → Prop := chB M v dp (tS M dp t e c f (evX M dp.toNat))
def uP (M : fM) (v : pV) (dp t e c f : Int) (N : fM) : Prop := UpdC M (uS M v dp t e c f) N ∧ Fr dp M N
theorem emW_at {mx : Int → Int} {pr : Int → Int → Int → Int → Int} {un : Int → Int} {b : sS → sN → Prop} {w : Int} {s : sS} {n : sN} (h0 : 0 ≤ w) (h1 : w < 4) : emW mx pr un b (4 - w).toNat s n ↔ (0 < sp s w ∧ ∃ e, sl s w ≤ e ∧ e ≤ mx w ∧ emW mx pr un b (4 - (w + 1)).toNat (sL pr un w e s) n) ∨ (¬ 0 < sp s w ∧ emW mx pr un b (4 - (w + 1)).toNat s n) := by
  obtain ⟨k, hk⟩ : ∃ k : Nat, w = 3 - (k : Int) := ⟨(3 - w).toNat, by omega⟩
  subst hk
  rw [show (4 - (3 - (k : Int))).toNat = k + 1 by omega, show (4 - (3 - (k : Int) + 1)).toNat = k by omega]
  exact Iff.rfl
theorem emW_skip {mx : Int → Int} {pr : Int → Int → Int → Int → Int} {un : Int → Int} {b : sS → sN → Prop} {s : sS} {n : sN} : ∀ (m : Nat) (g r : Int), r = g + m → 0 ≤ g → r ≤ 4 → (∀ w, g ≤ w → w < r → ¬ 0 < sp s w) → (emW mx pr un b (4 - g).toNat s n ↔ emW mx pr un b (4 - r).toNat s n)
  | 0, g, r, hr, h0, h4, hp => by rw [show r = g by omega]
  | m + 1, g, r, hr, h0, h4, hp => by
    have hg := hp g (by omega) (by omega)
    rw [emW_at h0 (by omega), ← emW_skip m (g + 1) r (by omega) (by omega) h4 (fun w a b => hp w (by omega) b)]
    exact ⟨fun h => h.elim (fun q => absurd q.1 hg) (fun q => q.2), fun h => Or.inr ⟨hg, h⟩⟩
theorem tS_light {M K : fM} {dp w l t e c f e' c' f' : Int} {xs : List Int} {pr : Int → Int → Int → Int → Int} {un : Int → Int} (h0 : 0 ≤ w) (h4 : w < 4) (h43 : ∀ x, 0 ≤ x → x < 4 → K 43 (dp * 4 + x) = M 43 (dp * 4 + x)) (h44 : ∀ x, 0 ≤ x → x < 4 → x ≠ w → K 44 (dp * 4 + x) = M 44 (dp * 4 + x)) (hl : K 44 (dp * 4 + w) = l)
    (he : e' = e + (l - M 44 (dp * 4 + w))) (hc : c' = c + lc (fun j => pr w j (M 43 (dp * 4 + w)) t) (M 44 (dp * 4 + w)) l) (hf : f' = f + (l - M 44 (dp * 4 + w)) * un w) : tS K dp t e' c' f' xs = sL pr un w l (tS M dp t e c f xs) := by
  have q1 : sl (tS M dp t e c f xs) w = M 44 (dp * 4 + w) := tS_l ⟨h0, h4⟩
  have q2 : sp (tS M dp t e c f xs) w = M 43 (dp * 4 + w) := tS_p ⟨h0, h4⟩
  unfold sL
  rw [q1, q2, he, hc, hf]
  refine Prod.ext (funext fun x => ?_) (Prod.ext (funext fun x => ?_) rfl)
  · show cut4 (fun x => K 43 (dp * 4 + x)) x = cut4 (fun x => M 43 (dp * 4 + x)) x
    unfold cut4
    by_cases hx : 0 ≤ x ∧ x < 4
    · rw [if_pos hx, if_pos hx]; exact h43 x hx.1 hx.2
    · rw [if_neg hx, if_neg hx]
  · show cut4 (fun x => K 44 (dp * 4 + x)) x = updI (cut4 (fun x => M 44 (dp * 4 + x))) w l x
    unfold cut4 updI
    by_cases hxw : x = w
    · rw [if_pos hxw, hxw, if_pos ⟨h0, h4⟩]; exact hl
    · rw [if_neg hxw]
      by_cases hx : 0 ≤ x ∧ x < 4
      · rw [if_pos hx]; exact (h44 x hx.1 hx.2 hxw).trans (if_pos hx).symm
      · rw [if_neg hx]; exact (if_neg hx).symm
theorem lc_self {f : Int → Int} {a : Int} : lc f a a = 0 := by
  unfold lc
  rw [if_neg (by omega), if_neg (by omega)]; rfl
theorem lc_succ {f : Int → Int} {a l : Int} (h0 : 0 ≤ a) (h1 : a ≤ l) (h2 : l < 2) : lc f a (l + 1) = lc f a l + f l := by
  unfold lc
  rcases (show (a = 0 ∧ l = 0) ∨ (a = 0 ∧ l = 1) ∨ (a = 1 ∧ l = 1) by omega) with ⟨e1, e2⟩ | ⟨e1, e2⟩ | ⟨e1, e2⟩ <;> subst e1 <;> subst e2 <;> simp
theorem lc_rg {f : Int → Int} {a l : Int} (hf : ∀ j, 0 ≤ f j ∧ f j ≤ 99) (h0 : 0 ≤ a) (h1 : a ≤ l) (h2 : l ≤ 2) : 0 ≤ lc f a l ∧ lc f a l ≤ 99 * (l - a) := by
  have f0 := hf 0
  have f1 := hf 1
  unfold lc
  rcases (show (a = 0 ∧ l = 0) ∨ (a = 0 ∧ l = 1) ∨ (a = 0 ∧ l = 2) ∨ (a = 1 ∧ l = 1) ∨ (a = 1 ∧ l = 2) ∨ (a = 2 ∧ l = 2) by omega) with ⟨e1, e2⟩ | ⟨e1, e2⟩ | ⟨e1, e2⟩ | ⟨e1, e2⟩ | ⟨e1, e2⟩ | ⟨e1, e2⟩ <;> subst e1 <;> subst e2 <;> simp <;> omega
/-! one wick's ends: the loop -/
section Choose
variable {M : fM} {v : pV} {dp g t e c f w : Int}
/-- lights of wick w from what is lit up to l (without l) -/
def chL (M : fM) (v : pV) (dp t e c f w l : Int) : sN → Prop := fun n => ∃ x, M 44 (dp * 4 + w) ≤ x ∧ x < l ∧ emW (useZ M) (prX M v) (unD M dp) (chB M v dp) (4 - (w + 1)).toNat (sL (prX M v) (unD M dp) w x (tS M dp t e c f (evX M dp.toNat))) n
def LI (M : fM) (v : pV) (dp t e c f w l : Int) (N : fM) : Prop := UpdC M (chL M v dp t e c f w l) N ∧ Fr dp (up M 44 (dp * 4 + w) (N 44 (dp * 4 + w))) N
theorem LI.init : LI M v dp t e c f w (M 44 (dp * 4 + w)) M := ⟨UpdC.id (fun n ⟨x, a, b, _⟩ => by omega) (fun _ _ _ => rfl), by rw [up_id rfl]; exact Fr.refl⟩
theorem LI.k {l : Int} {N : fM} (h : LI M v dp t e c f w l N) (k : Nat) (hk : k ≠ 35 ∧ k ≠ 36 ∧ (k < 40 ∨ 47 < k ∨ k = 46)) : N k = M k := by rw [h.2.c k hk, up_ne (by omega)]
theorem LI.r {l : Int} {N : fM} (h : LI M v dp t e c f w l N) (h0 : 0 ≤ w) (h4 : w < 4) (hd : 0 ≤ dp) : (∀ i, 0 ≤ i → i < dp * 4 + 4 → N 43 i = M 43 i ∧ (i ≠ dp * 4 + w → N 44 i = M 44 i)) ∧ (∀ i, 0 ≤ i → i < dp * 8 + 8 → N 45 i = M 45 i) ∧ (∀ j, 0 ≤ j → j < dp → N 47 j = M 47 j) ∧ (M 39 12 = 0 → ∀ i, 0 ≤ i → i < 40 → N 45 i = M 45 i) := by
  obtain ⟨-, h1, h2, h3, h5, h6⟩ := h
  refine ⟨fun i a b => ⟨?_, fun hi => ?_⟩, fun i a b => by rw [h3 i a b, up_ne (by decide)], fun j a b => by rw [h5 j a b, up_ne (by decide)], fun z i a b => ?_⟩
  · rw [(h2 i a b).1, up_ne (by decide)]
  · rw [(h2 i a b).2, up_app, if_neg (by omega)]
  · rw [h6 (by rw [up_ne (by decide)]; exact z) i a b, up_ne (by decide)]
theorem tOk.sub (hk : tOk M v dp g t e c f) (hw : g ≤ w ∧ w < 4) (hp : 0 < M 43 (dp * 4 + w)) {l u cs : Int} {N : fM} (hL : LI M v dp t e c f w l N) (hl : M 44 (dp * 4 + w) ≤ l) (hu2 : l ≤ 2) (hu : u = unD M dp w) (hcs : cs = c + lc (fun j => prX M v w j (M 43 (dp * 4 + w)) t) (M 44 (dp * 4 + w)) l) : tOk (up N 44 (dp * 4 + w) l) v dp (w + 1) t (e + l - M 44 (dp * 4 + w)) cs (f + l * u) := by
  obtain ⟨k1, ⟨k21, k22, k23⟩, ⟨k31, k32, k33⟩, ⟨k41, k42, k43, k44, k45, k46⟩, k5, k61, k62⟩ := hk
  obtain ⟨r1, r2, r3, r4⟩ := hL.r (by omega) hw.2 k31.1
  have hN := hL.k
  have hq := k21.1 w (by omega) hw.2
  have hlc := lc_rg (f := fun j => prX M v w j (M 43 (dp * 4 + w)) t) (fun j => prX_rg) hq.2.1 hl hu2
  have e46 : (up N 44 (dp * 4 + w) l) 46 = M 46 := by rw [up_ne (by decide), hN 46 (by decide)]
  have p43 : ∀ x, 0 ≤ x → x < 4 → (up N 44 (dp * 4 + w) l) 43 (dp * 4 + x) = M 43 (dp * 4 + x) := fun x a b => by rw [up_ne (by decide)]; exact (r1 _ (by omega) (by omega)).1
  have p44 : ∀ x, 0 ≤ x → x < 4 → x ≠ w → (up N 44 (dp * 4 + w) l) 44 (dp * 4 + x) = M 44 (dp * 4 + x) := fun x a b z => by rw [up_app, if_neg (by omega)]; exact (r1 _ (by omega) (by omega)).2 (by omega)
  have pw : (up N 44 (dp * 4 + w) l) 44 (dp * 4 + w) = l := by rw [up_app, if_pos ⟨rfl, rfl⟩]
  have e1 : (up N 44 (dp * 4 + w) l) 1 = M 1 := by rw [up_ne (by decide), hN 1 (by decide)]
  have e39 : (up N 44 (dp * 4 + w) l) 39 = M 39 := by rw [up_ne (by decide), hN 39 (by decide)]
  have hlu : 0 ≤ l * u ∧ l * u ≤ 2000 ∧ (dp ≠ 0 → l * u = 0) := by
    unfold unD at hu
    by_cases hd : dp = 0
    · rw [if_pos hd] at hu
      have := k1.2.2.2.2 w (by omega) hw.2
      rcases (show l = 0 ∨ l = 1 ∨ l = 2 by omega) with q | q | q <;> subst q <;> omega
    · rw [if_neg hd] at hu
      subst hu
      simp
  refine ⟨k1.eq (fun k a b z => by rw [up_ne (by omega), hN k ⟨a, b, by omega⟩]), ⟨⟨fun x a b => ?_, fun j a b => by rw [e46]; exact k21.2 j a b⟩, ?_, fun x a b => ?_⟩, ⟨k31, k32, fun j a b => ?_⟩, ⟨by omega, ⟨by omega, by omega⟩, ⟨by omega, by omega⟩, by omega, ?_, ?_⟩, fun z x a b => ?_, fun x j a b z i i0 i1 => ?_, fun z i a b => ?_⟩
  · rw [p43 x a b]
    by_cases hx : x = w
    · rw [hx, pw]; exact ⟨hq.1, by omega⟩
    · rw [p44 x a b hx]; exact k21.1 x a b
  · have k22 : cn1 (M 43 (dp * 4 + 0)) + cn1 (M 43 (dp * 4 + 1)) + cn1 (M 43 (dp * 4 + 2)) + cn1 (M 43 (dp * 4 + 3)) ≤ 4 - dp := k22
    show cn1 ((up N 44 (dp * 4 + w) l) 43 (dp * 4 + 0)) + cn1 ((up N 44 (dp * 4 + w) l) 43 (dp * 4 + 1)) + cn1 ((up N 44 (dp * 4 + w) l) 43 (dp * 4 + 2)) + cn1 ((up N 44 (dp * 4 + w) l) 43 (dp * 4 + 3)) ≤ 4 - dp
    rw [p43 0 (by omega) (by omega), p43 1 (by omega) (by omega), p43 2 (by omega) (by omega), p43 3 (by omega) (by omega)]
    exact k22
  · rw [p43 x a b, e1]; exact k23 x a b
  · rw [up_ne (by decide), r3 j a b]; exact k33 j a b
  · by_cases hd : dp = 0
    · have := k46 hd; omega
    · have := hlu.2.2 hd; omega
  · intro hd; have := k46 hd; omega
  · have hx := p44 x (by omega) b (by omega)
    rw [z, show (0 : Int) * 4 + x = x by omega] at hx
    rw [z, hx]
    exact k5 z x (by omega) b
  · rw [p43 x (by omega) b] at z ⊢
    rw [p44 x (by omega) b (by omega)] at i
    rw [up_ne (by decide), r2 _ (by omega) (by omega), prX_eq e39 e1 (by rw [up_ne (by decide), hN 4 (by decide)]) (by rw [up_ne (by decide), hN 6 (by decide)])]
    exact k61 x j (by omega) b z i i0 i1
  · rw [e39] at z
    rw [up_ne (by decide), r4 z i a b]
    exact k62 z i a b
theorem LI.next (hk : tOk M v dp g t e c f) (hw : g ≤ w ∧ w < 4) {l u cs : Int} {N K : fM} (hL : LI M v dp t e c f w l N) (hl : M 44 (dp * 4 + w) ≤ l) (hu : u = unD M dp w) (hcs : cs = c + lc (fun j => prX M v w j (M 43 (dp * 4 + w)) t) (M 44 (dp * 4 + w)) l) (h : chP (up N 44 (dp * 4 + w) l) v dp (w + 1) t (e + l - M 44 (dp * 4 + w)) cs (f + l * u) K) : LI M v dp t e c f w (l + 1) K := by
  obtain ⟨k1, ⟨k21, k22, k23⟩, ⟨k31, k32, k33⟩, ⟨k41, k42, k43, k44, k45, k46⟩, k5, k61, k62⟩ := hk
  obtain ⟨r1, r2, r3, r4⟩ := hL.r (by omega) hw.2 k31.1
  have hN := hL.k
  have hF := hL.2
  obtain ⟨h1, h2⟩ := h
  have e46 : (up N 44 (dp * 4 + w) l) 46 = M 46 := by rw [up_ne (by decide), hN 46 (by decide)]
  have e48 : (up N 44 (dp * 4 + w) l) 48 = M 48 := by rw [up_ne (by decide), hN 48 (by decide)]
  have p43 : ∀ x, 0 ≤ x → x < 4 → (up N 44 (dp * 4 + w) l) 43 (dp * 4 + x) = M 43 (dp * 4 + x) := fun x a b => by rw [up_ne (by decide)]; exact (r1 _ (by omega) (by omega)).1
  have p44 : ∀ x, 0 ≤ x → x < 4 → x ≠ w → (up N 44 (dp * 4 + w) l) 44 (dp * 4 + x) = M 44 (dp * 4 + x) := fun x a b z => by rw [up_app, if_neg (by omega)]; exact (r1 _ (by omega) (by omega)).2 (by omega)
  have pw : (up N 44 (dp * 4 + w) l) 44 (dp * 4 + w) = l := by rw [up_app, if_pos ⟨rfl, rfl⟩]
  have eS : chS (up N 44 (dp * 4 + w) l) v dp (w + 1) t (e + l - M 44 (dp * 4 + w)) cs (f + l * u) = emW (useZ M) (prX M v) (unD M dp) (chB M v dp) (4 - (w + 1)).toNat (sL (prX M v) (unD M dp) w l (tS M dp t e c f (evX M dp.toNat))) := by
    have eP : prX (up N 44 (dp * 4 + w) l) v = prX M v := prX_eq (by rw [up_ne (by decide), hN 39 (by decide)]) (by rw [up_ne (by decide), hN 1 (by decide)]) (by rw [up_ne (by decide), hN 4 (by decide)]) (by rw [up_ne (by decide), hN 6 (by decide)])
    unfold chS chB
    rw [useZ_eq e46, tV_eq e46, unD_eq e48, eP, evX_eq dp.toNat (fun j a b => by rw [up_ne (by decide), r3 j a (by omega)])]
    rw [tS_light (t := t) (e := e) (c := c) (f := f) (pr := prX M v) (un := unD M dp) (by omega) hw.2 p43 p44 pw (by omega) hcs ?_]
    rw [hu]
    unfold unD
    by_cases hd : dp = 0
    · have h0 := k5 hd w hw.1 hw.2
      subst hd
      rw [show (0 : Int) * 4 + w = w by omega, h0, Int.sub_zero]
    · rw [if_neg hd]; simp
  rw [eS] at h1
  refine ⟨hL.1.comp (S2 := emW (useZ M) (prX M v) (unD M dp) (chB M v dp) (4 - (w + 1)).toNat (sL (prX M v) (unD M dp) w l (tS M dp t e c f (evX M dp.toNat)))) (fun n => ?_) (h1.eq (fun k a b => (up_ne (by omega)).symm) (fun _ _ _ => rfl)), ?_⟩
  · constructor
    · rintro ⟨x, a, b, q⟩
      by_cases hx : x = l
      · subst hx; exact Or.inr q
      · exact Or.inl ⟨x, a, by omega, q⟩
    · rintro (⟨x, a, b, q⟩ | q)
      · exact ⟨x, a, by omega, q⟩
      · exact ⟨l, hl, by omega, q⟩
  · have hlK : K 44 (dp * 4 + w) = l := by rw [(h2.2.1 _ (by omega) (by omega)).2, pw]
    rw [hlK]
    refine Fr.trans ?_ h2
    refine ⟨fun k a b z => by rw [up_ne (by omega), up_ne (by omega), hN k ⟨a, b, z⟩], fun i a b => ?_, fun i a b => by rw [up_ne (by decide), up_ne (by decide), r2 i a b], fun j a b => by rw [up_ne (by decide), up_ne (by decide), r3 j a b], fun z i a b => ?_⟩
    · rw [up_ne (by decide), up_ne (by decide), (r1 i a b).1]
      refine ⟨rfl, ?_⟩
      rw [up_app, up_app]
      by_cases hi : i = dp * 4 + w
      · rw [if_pos ⟨rfl, hi⟩, if_pos ⟨rfl, hi⟩]
      · rw [if_neg (fun q => hi q.2), if_neg (fun q => hi q.2)]
        exact (r1 i a b).2 hi
    · rw [up_ne (by decide)] at z
      rw [up_ne (by decide), up_ne (by decide), r4 z i a b]
theorem LI.done (hk : tOk M v dp g t e c f) (hw : g ≤ w ∧ w < 4) (hp : 0 < M 43 (dp * 4 + w)) (hs : ∀ x, g ≤ x → x < w → ¬ 0 < M 43 (dp * 4 + x)) {l : Int} (hl : l = useZ M w + 1) {N : fM} (hL : LI M v dp t e c f w l N) : chP M v dp g t e c f (up N 44 (dp * 4 + w) (M 44 (dp * 4 + w))) := by
  obtain ⟨k1, ⟨k21, k22, k23⟩, ⟨k31, k32, k33⟩, ⟨k41, k42, k43, k44, k45, k46⟩, k5, k61, k62⟩ := hk
  obtain ⟨r1, r2, r3, r4⟩ := hL.r (by omega) hw.2 k31.1
  have hN := hL.k
  refine ⟨(hL.1.eq (fun _ _ _ => rfl) (fun k a b => up_ne (by omega))).congr (fun n => ?_), fun k a b z => by rw [up_ne (by omega), hN k ⟨a, b, z⟩], fun i a b => ?_, fun i a b => by rw [up_ne (by decide), r2 i a b], fun j a b => by rw [up_ne (by decide), r3 j a b], fun z i a b => by rw [up_ne (by decide), r4 z i a b]⟩
  · unfold chS
    rw [emW_skip (w - g).toNat g w (by omega) (by omega) (by omega) (fun x a b => by rw [tS_p ⟨by omega, by omega⟩]; exact hs x a b), emW_at (by omega) hw.2, tS_p ⟨by omega, by omega⟩, tS_l ⟨by omega, by omega⟩]
    constructor
    · rintro (⟨-, x, a, b, q⟩ | ⟨q, -⟩)
      · exact ⟨x, a, by omega, q⟩
      · exact absurd hp q
    · rintro ⟨x, a, b, q⟩
      exact Or.inl ⟨hp, x, a, by omega, q⟩
  · rw [up_ne (by decide), (r1 i a b).1, up_app]
    refine ⟨rfl, ?_⟩
    by_cases hi : i = dp * 4 + w
    · rw [if_pos ⟨rfl, hi⟩, hi]
    · rw [if_neg (fun q => hi q.2)]; exact (r1 i a b).2 hi
/-- the price that is asked for behind a lighting -/
theorem LI.price (hk : tOk M v dp g t e c f) (hw : g ≤ w ∧ w < 4) (hp : 0 < M 43 (dp * 4 + w)) {l : Int} {N : fM} (hL : LI M v dp t e c f w (l + 1) N) (hl : M 44 (dp * 4 + w) ≤ l) (hl2 : l < 2) : N 45 ((dp * 4 + w) * 2 + l) = prX M v w l (M 43 (dp * 4 + w)) t := by
  obtain ⟨k1, ⟨k21, k22, k23⟩, ⟨k31, k32, k33⟩, ⟨k41, k42, k43, k44, k45, k46⟩, k5, k61, k62⟩ := hk
  obtain ⟨r1, r2, r3, r4⟩ := hL.r (by omega) hw.2 k31.1
  have hq := k21.1 w (by omega) hw.2
  rw [r2 _ (by omega) (by omega)]
  exact k61 w l hw.1 hw.2 hp hl (by omega) hl2
theorem uP.ch (hk : tOk M v dp g t e c f) (hs : ∀ x, g ≤ x → x < 4 → ¬ 0 < M 43 (dp * 4 + x)) {N : fM} (h : uP M v dp t e c f N) : chP M v dp g t e c f N := by
  have hb := hk.2.2.2.1
  refine ⟨h.1.congr (fun n => ?_), h.2⟩
  unfold chS
  rw [emW_skip (4 - g).toNat g 4 (by have := hb.1; omega) hb.1.1 (by omega) (fun x a b => by rw [tS_p ⟨by have := hb.1; omega, by omega⟩]; exact hs x a b)]
  exact Iff.rfl
theorem tOk.four (hk : tOk M v dp g t e c f) : tOk M v dp 4 t e c f := by
  obtain ⟨k1, k2, k3, ⟨k41, k42, k43, k44, k45, k46⟩, k5, k61, k62⟩ := hk
  exact ⟨k1, k2, k3, ⟨by omega, by omega, by omega, k44, k45, fun z => by have := k46 z; omega⟩, fun z x a b => by omega, fun x l a b => by omega, k62⟩
end Choose
