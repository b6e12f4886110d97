/-! the model's tellings: its rows stand for a state -/
def mvZ (M : fM) : Int → Int → Int := vZ (M 63) (M 64) (M 59 36)
def mprZ (M : fM) (v : pV) (w l p t : Int) : Int := bd 99 (v (nmf p (M 59 13) l (min 999 (M 67 w + M 65 w - p)) w t))
def mprX (M : fM) (v : pV) (w l p t : Int) : Int := if M 59 42 = 0 then 0 else mprZ M v w l p t
theorem mprX_rg {M : fM} {v : pV} {w l p t : Int} : 0 ≤ mprX M v w l p t ∧ mprX M v w l p t ≤ 99 := by
  unfold mprX
  split
  · omega
  · exact bd_rg (by omega)
def roP (M : fM) (lv : Int) : Int → Int := fun w => if 0 ≤ w ∧ w < M 59 12 then M 68 (4 * lv + w) else 0
def roL (M : fM) (lv : Int) : Int → Int := fun w => if 0 ≤ w ∧ w < M 59 12 then M 69 (4 * lv + w) else 0
def evM (M : fM) : Nat → List Int
  | 0 => [M 70 0]
  | k + 1 => evM M k ++ [M 70 ((k : Int) + 1)]
theorem evM_eq {M N : fM} : ∀ k : Nat, (∀ j : Int, j ≤ k → N 70 j = M 70 j) → evM N k = evM M k
  | 0, h => by unfold evM; rw [h 0 (Int.le_refl 0)]
  | k + 1, h => by
    unfold evM
    rw [evM_eq k (fun j hj => h j (by omega)), h ((k : Int) + 1) (by omega)]
theorem evM_mem {M : fM} {u : Int} : ∀ k : Nat, u ∈ evM M k ↔ ∃ j : Int, 0 ≤ j ∧ j ≤ k ∧ u = M 70 j
  | 0 => by
    unfold evM
    constructor
    · intro h
      exact ⟨0, Int.le_refl 0, Int.le_refl 0, List.mem_singleton.mp h⟩
    · rintro ⟨j, a, b, e⟩
      have : j = 0 := by omega
      subst this
      exact List.mem_singleton.mpr e
  | k + 1 => by
    unfold evM
    rw [List.mem_append, evM_mem k]
    constructor
    · rintro (⟨j, a, b, e⟩ | h)
      · exact ⟨j, a, by omega, e⟩
      · exact ⟨(k : Int) + 1, by omega, by omega, List.mem_singleton.mp h⟩
    · rintro ⟨j, a, b, e⟩
      by_cases hj : j ≤ (k : Int)
      · exact Or.inl ⟨j, a, hj, e⟩
      · have : j = (k : Int) + 1 := by omega
        subst this
        exact Or.inr (List.mem_singleton.mpr e)
def unW (n w : Int) : Int := unN n (4 - w).toNat
theorem unW_s {n w : Int} (h0 : 0 ≤ w) (h1 : w < n) (h4 : n ≤ 4) : unW n w = unW n (w + 1) * 10 ∧ unZ n w = unW n (w + 1) := by
  obtain ⟨k, hk⟩ : ∃ k : Nat, w = 3 - (k : Int) := ⟨(3 - w).toNat, by omega⟩
  subst hk
  unfold unW unZ
  rw [show (4 - (3 - (k : Int))).toNat = k + 1 by omega, show (4 - (3 - (k : Int) + 1)).toNat = k by omega, show (3 - (3 - (k : Int))).toNat = k by omega]
  refine ⟨?_, rfl⟩
  show unN n k * (if 3 - (k : Int) < n then 10 else 1) = _
  rw [if_pos h1]
theorem unN_top {n : Int} : ∀ k : Nat, (k : Int) ≤ 4 - n → unN n k = 1
  | 0, _ => rfl
  | k + 1, h => by
    show unN n k * (if 3 - (k : Int) < n then 10 else 1) = 1
    rw [unN_top k (by omega), if_neg (by omega)]; rfl
theorem unW_top {n : Int} (h0 : 0 ≤ n) (h4 : n ≤ 4) : unW n n = 1 := unN_top _ (by omega)
def dgU (M : fM) (lv w : Int) : Int := if lv = 0 then unW (M 59 12) w else 1
def lvS (M : fM) (lv w : Int) : sS := (roP M lv, roL M lv, M 70 lv, M 71 lv, M 72 lv, M 59 37 * dgU M lv w, evM M lv.toNat)
def unL (M : fM) (lv : Int) : Int → Int := if lv = 0 then unZ (M 59 12) else fun _ => 0
abbrev two : Int → Int := fun _ => 2
abbrev lvB (M : fM) (v : pV) (lv : Int) : sS → sN → Prop := emB (mvZ M) (emD two (mprX M v) (mvZ M) (4 - lv).toNat)
def liS (M : fM) (v : pV) (lv w : Int) : sN → Prop := emW two (mprX M v) (unL M lv) (lvB M v lv) (4 - w).toNat (lvS M lv w)
def buS (M : fM) (v : pV) (lv : Int) : sN → Prop := lvB M v lv (lvS M lv (M 59 12))
/-! the notes -/
def vE (M : fM) (x : Int) : Int := if M 73 x = 0 then UT else M 74 x * 10000 + M 76 x
def vC (M : fM) (x : Int) : Int := if M 73 x = 0 then UT else M 75 x
def UpdM (M : fM) (S : sN → Prop) (N : fM) : Prop := (∀ x, 0 ≤ x → x ≤ 400 → Lst S kyE x (vE M x) (vE N x) ∧ Lst S kyC x (vC M x) (vC N x)) ∧ Apt S (M 59 43) (M 59 44) (N 59 44)
theorem UpdM.id {M N : fM} {S : sN → Prop} (h : ∀ n, ¬ S n) (e : ∀ c, 73 ≤ c → c ≤ 76 → N c = M c) (e44 : N 59 44 = M 59 44) : UpdM M S N := ⟨fun x _ _ => by
  have a : vE N x = vE M x := by unfold vE; rw [e 73 (by decide) (by decide), e 74 (by decide) (by decide), e 76 (by decide) (by decide)]
  have b : vC N x = vC M x := by unfold vC; rw [e 73 (by decide) (by decide), e 75 (by decide) (by decide)]
  rw [a, b]
  exact ⟨Lst.id (fun n q _ => h n q), Lst.id (fun n q _ => h n q)⟩, by rw [e44]; exact Apt.id h⟩
theorem UpdM.comp {M N K : fM} {S1 S2 S : sN → Prop} (hS : ∀ n, S n ↔ S1 n ∨ S2 n) (h1 : UpdM M S1 N) (h2 : UpdM N S2 K) (e : N 59 43 = M 59 43) : UpdM M S K := ⟨fun x x0 x1 => ⟨Lst.comp hS (h1.1 x x0 x1).1 (h2.1 x x0 x1).1, Lst.comp hS (h1.1 x x0 x1).2 (h2.1 x x0 x1).2⟩, by have h3 := h2.2; rw [e] at h3; exact Apt.comp hS h1.2 h3⟩
theorem UpdM.congr {M N : fM} {S S' : sN → Prop} (hS : ∀ n, S' n ↔ S n) (h : UpdM M S N) : UpdM M S' N := ⟨fun x x0 x1 => ⟨Lst.congr hS (h.1 x x0 x1).1, Lst.congr hS (h.1 x x0 x1).2⟩, Apt.congr hS h.2⟩
theorem UpdM.eq {M M' N N' : fM} {S : sN → Prop} (h : UpdM M S N) (e1 : ∀ c, 73 ≤ c → c ≤ 76 → M' c = M c) (e2 : ∀ c, 73 ≤ c → c ≤ 76 → N' c = N c) (a : M' 59 43 = M 59 43) (b : M' 59 44 = M 59 44) (c : N' 59 44 = N 59 44) : UpdM M' S N' := by
  unfold UpdM vE vC
  rw [e1 73 (by decide) (by decide), e1 74 (by decide) (by decide), e1 75 (by decide) (by decide), e1 76 (by decide) (by decide), e2 73 (by decide) (by decide), e2 74 (by decide) (by decide), e2 75 (by decide) (by decide), e2 76 (by decide) (by decide), a, b, c]
  exact h
/-- what a level keeps -/
def FL (lv : Int) (M N : fM) : Prop := (∀ c, c ≠ 59 → (c < 68 ∨ 77 < c) → N c = M c) ∧ (∀ k, (k < 15 ∨ 29 < k) → k ≠ 44 → N 59 k = M 59 k) ∧ (∀ i, i < 4 * lv + 4 → N 68 i = M 68 i ∧ N 69 i = M 69 i) ∧ ∀ i, i ≤ lv → N 70 i = M 70 i ∧ N 71 i = M 71 i ∧ N 72 i = M 72 i
theorem FL.refl {lv : Int} {M : fM} : FL lv M M := ⟨fun _ _ _ => rfl, fun _ _ _ => rfl, fun _ _ => ⟨rfl, rfl⟩, fun _ _ => ⟨rfl, rfl, rfl⟩⟩
theorem FL.trans {lv : Int} {M N K : fM} (h : FL lv M N) (g : FL lv N K) : FL lv M K := ⟨fun c a b => by rw [g.1 c a b, h.1 c a b], fun k a b => by rw [g.2.1 k a b, h.2.1 k a b], fun i a => ⟨by rw [(g.2.2.1 i a).1, (h.2.2.1 i a).1], by rw [(g.2.2.1 i a).2, (h.2.2.1 i a).2]⟩, fun i a => ⟨by rw [(g.2.2.2 i a).1, (h.2.2.2 i a).1], by rw [(g.2.2.2 i a).2.1, (h.2.2.2 i a).2.1], by rw [(g.2.2.2 i a).2.2, (h.2.2.2 i a).2.2]⟩⟩
theorem FL.down {lv lv' : Int} {M N : fM} (h : FL lv M N) (hl : lv' ≤ lv) : FL lv' M N := ⟨h.1, h.2.1, fun i a => h.2.2.1 i (by omega), fun i a => h.2.2.2 i (by omega)⟩
theorem FL.f {lv : Int} {M N : fM} (h : FL lv M N) (k : Int) (hk : k < 15 ∨ 29 < k) (h4 : k ≠ 44) : N 59 k = M 59 k := h.2.1 k hk h4
def nwf (M : fM) : Prop := ∀ x, 0 ≤ x → x ≤ 400 → M 73 x = 0 ∨ (M 73 x = 1 ∧ (0 ≤ M 74 x ∧ M 74 x ≤ 40) ∧ (0 ≤ M 76 x ∧ M 76 x ≤ 2222) ∧ (0 ≤ M 75 x ∧ M 75 x ≤ 3960))
theorem nwf.eq {M N : fM} (h : nwf M) (e : ∀ c, 73 ≤ c → c ≤ 76 → N c = M c) : nwf N := by
  unfold nwf at *
  rw [e 73 (by decide) (by decide), e 74 (by decide) (by decide), e 75 (by decide) (by decide), e 76 (by decide) (by decide)]
  exact h
def cix (w l p t : Int) : Int := ((w * 2 + l) * 100 + p) * 402 + t
theorem cix_inj {w l p t w' l' p' t' : Int} (h1 : 0 ≤ l ∧ l < 2) (h2 : 0 ≤ p ∧ p < 100) (h3 : 0 ≤ t ∧ t < 402) (g1 : 0 ≤ l' ∧ l' < 2) (g2 : 0 ≤ p' ∧ p' < 100) (g3 : 0 ≤ t' ∧ t' < 402) (h : cix w l p t = cix w' l' p' t') : w = w' ∧ l = l' ∧ p = p' ∧ t = t' := by
  unfold cix at h
  omega
def cmI (M : fM) (v : pV) : Prop := M 59 42 = 0 ∨ ∀ w l p t, 0 ≤ w → w < 4 → (0 ≤ l ∧ l < 2) → (0 ≤ p ∧ p < 100) → (0 ≤ t ∧ t < 402) → M 77 (cix w l p t) = -1 ∨ M 77 (cix w l p t) = mprZ M v w l p t
theorem mprZ_eq {M N : fM} {v : pV} (e : N 59 13 = M 59 13) (e5 : N 65 = M 65) (e7 : N 67 = M 67) : mprZ N v = mprZ M v := by
  funext w l p t; unfold mprZ; rw [e, e5, e7]
theorem cmI.eq {M N : fM} {v : pV} (h : cmI M v) (e : N 77 = M 77) (e2 : N 59 42 = M 59 42) (e3 : N 59 13 = M 59 13) (e5 : N 65 = M 65) (e7 : N 67 = M 67) : cmI N v := by
  unfold cmI at *
  rw [e, e2, mprZ_eq e3 e5 e7]
  exact h
/-- the rule at hand: what its sections say -/
def gokM (M : fM) (W : Int → pV) : Prop := (0 ≤ M 59 4 ∧ M 59 4 < 6) ∧ ∃ B n, mTx M (M 59 4) B n ∧ ∀ k, 0 ≤ k → k ≤ 2 → vtx B n k = W k
theorem gokM.eq {M N : fM} {W : Int → pV} (h : gokM M W) (e : N 59 4 = M 59 4) (e0 : N 60 = M 60) (e1 : N 61 = M 61) : gokM N W := by
  unfold gokM mTx at *
  rw [e, e0, e1]
  exact h
theorem WfM.eq {M N : fM} (h : WfM M) (e : ∀ k, 12 ≤ k → k ≤ 14 → N 59 k = M 59 k) (e2 : ∀ c, 63 ≤ c → c ≤ 67 → N c = M c) : WfM N := by
  unfold WfM at *
  rw [e 12 (by decide) (by decide), e 13 (by decide) (by decide), e 14 (by decide) (by decide), e2 63 (by decide) (by decide), e2 64 (by decide) (by decide), e2 65 (by decide) (by decide), e2 66 (by decide) (by decide), e2 67 (by decide) (by decide)]
  exact h
def dgm (w : Int) : Int := if w ≤ 0 then 0 else if w = 1 then 2 else if w = 2 then 22 else if w = 3 then 222 else 2222
def lvRow (M : fM) (lv : Int) : Prop := ∀ x, 0 ≤ x → x < M 59 12 → (0 ≤ M 68 (4 * lv + x) ∧ M 68 (4 * lv + x) ≤ M 65 x) ∧ (0 ≤ M 69 (4 * lv + x) ∧ M 69 (4 * lv + x) ≤ 2) ∧ (M 68 (4 * lv + x) = 0 → M 69 (4 * lv + x) = 0)
def lvStat (M : fM) (W : Int → pV) : Prop := WfM M ∧ gokM M W ∧ (0 ≤ M 59 36 ∧ M 59 36 ≤ 9) ∧ (M 59 44 = 0 ∨ M 59 44 = 1) ∧ nwf M ∧ cmI M (W 0)
def lvTm (M : fM) (lv : Int) : Prop := (0 ≤ M 70 lv ∧ M 70 lv ≤ 99 * lv) ∧ ∀ j, 0 ≤ j → j ≤ lv → 0 ≤ M 70 j ∧ M 70 j ≤ M 70 lv
def lvNum (M : fM) (lv w : Int) : Prop := (0 ≤ M 71 lv ∧ M 71 lv ≤ 8 * lv + 2 * w) ∧ (0 ≤ M 72 lv ∧ M 72 lv ≤ 99 * (8 * lv + 2 * w)) ∧ (0 ≤ M 59 37 ∧ M 59 37 ≤ 2222) ∧ (lv = 0 → M 59 37 ≤ dgm w)
def lvOk (M : fM) (W : Int → pV) (lv w : Int) : Prop := lvStat M W ∧ ((0 ≤ lv ∧ lv ≤ 4) ∧ 0 ≤ w ∧ w ≤ M 59 12) ∧ lvRow M lv ∧ cnS (roP M lv) ≤ 4 - lv ∧ lvTm M lv ∧ lvNum M lv w ∧ (lv = 0 → ∀ x, w ≤ x → x < M 59 12 → M 69 x = 0)
def liP (M : fM) (W : Int → pV) (lv w : Int) (K : fM) : Prop := UpdM M (liS M (W 0) lv w) K ∧ FL lv M K ∧ lvStat K W
section FLs
variable {lv w : Int} {M N : fM} {W : Int → pV}
theorem FL.stat (h : FL lv M N) (hs : lvStat M W) (h44 : N 59 44 = 0 ∨ N 59 44 = 1) (hn : nwf N) (hc : cmI N (W 0)) : lvStat N W := by
  obtain ⟨s1, s2, s3, s4, s5, s6⟩ := hs
  refine ⟨s1.eq (fun k a b => h.f k (by omega) (by omega)) (fun c a b => h.1 c (by omega) (by omega)), s2.eq (h.f 4 (by omega) (by omega)) (h.1 60 (by decide) (by decide)) (h.1 61 (by decide) (by decide)), by rw [h.f 36 (by omega) (by omega)]; exact s3, h44, hn, hc⟩
theorem FL_rows (h : FL lv M N) (h4 : M 59 12 ≤ 4) : roP N lv = roP M lv ∧ roL N lv = roL M lv := by
  refine ⟨?_, ?_⟩
  · funext w; unfold roP
    rw [h.f 12 (by omega) (by omega)]
    by_cases q : 0 ≤ w ∧ w < M 59 12
    · rw [if_pos q, if_pos q, (h.2.2.1 _ (by have := q.2; omega)).1]
    · rw [if_neg q, if_neg q]
  · funext w; unfold roL
    rw [h.f 12 (by omega) (by omega)]
    by_cases q : 0 ≤ w ∧ w < M 59 12
    · rw [if_pos q, if_pos q, (h.2.2.1 _ (by have := q.2; omega)).2]
    · rw [if_neg q, if_neg q]
theorem FL.fns (h : FL lv M N) {v : pV} : mvZ N = mvZ M ∧ mprX N v = mprX M v ∧ unL N lv = unL M lv := by
  have e12 := h.f 12 (by omega) (by omega)
  refine ⟨?_, ?_, ?_⟩
  · unfold mvZ; rw [h.1 63 (by decide) (by decide), h.1 64 (by decide) (by decide), h.f 36 (by omega) (by omega)]
  · funext w l p t; unfold mprX
    rw [h.f 42 (by omega) (by omega), mprZ_eq (h.f 13 (by omega) (by omega)) (h.1 65 (by decide) (by decide)) (h.1 67 (by decide) (by decide))]
  · unfold unL; rw [e12]
theorem FL_lvS (h : FL lv M N) (h4 : M 59 12 ≤ 4) (h0 : 0 ≤ lv) : lvS N lv w = lvS M lv w := by
  have hr := FL_rows h h4
  have ht := h.2.2.2 lv (Int.le_refl lv)
  unfold lvS
  rw [hr.1, hr.2, ht.1, ht.2.1, ht.2.2, h.f 37 (by omega) (by omega), evM_eq _ (fun j hj => (h.2.2.2 j (by omega)).1)]
  unfold dgU
  rw [h.f 12 (by omega) (by omega)]
theorem FL_liS (h : FL lv M N) (h4 : M 59 12 ≤ 4) (h0 : 0 ≤ lv) {v : pV} : liS N v lv w = liS M v lv w := by
  have hf := h.fns (v := v)
  unfold liS lvB
  rw [FL_lvS h h4 h0, hf.1, hf.2.1, hf.2.2]
theorem FL.ok (h : FL lv M N) (hk : lvOk M W lv w) (h44 : N 59 44 = 0 ∨ N 59 44 = 1) (hn : nwf N) (hc : cmI N (W 0)) : lvOk N W lv w := by
  obtain ⟨k1, k2, k3, k4, k5, k6, k7⟩ := hk
  have h4 := k1.1.1.2
  have hr := FL_rows h h4
  have e12 := h.f 12 (by omega) (by omega)
  have ht := h.2.2.2 lv (Int.le_refl lv)
  refine ⟨h.stat k1 h44 hn hc, by rw [e12]; exact k2, fun x a b => ?_, by rw [hr.1]; exact k4, ?_, ?_, fun z x a b => ?_⟩
  · rw [e12] at b
    have hx := h.2.2.1 (4 * lv + x) (by omega)
    rw [hx.1, hx.2, h.1 65 (by decide) (by decide)]
    exact k3 x a b
  · unfold lvTm
    rw [ht.1]
    exact ⟨k5.1, fun j a b => by rw [(h.2.2.2 j b).1]; exact k5.2 j a b⟩
  · unfold lvNum
    rw [ht.2.1, ht.2.2, h.f 37 (by omega) (by omega)]
    exact k6
  · rw [e12] at b
    rw [(h.2.2.1 x (by omega)).2]
    exact k7 z x a b
end FLs
/-! one wick's ends -/
def upL (M : fM) (lv w l e c g : Int) : fM := up (up (up (up M 69 (4 * lv + w) l) 71 lv e) 72 lv c) 59 37 g
section Up
variable {lv w l e c g : Int} {M N : fM} {W : Int → pV}
theorem upL_c {k : Nat} (h : k ≠ 59) (h1 : k ≠ 69) (h2 : k ≠ 71) (h3 : k ≠ 72) : upL M lv w l e c g k = M k := by
  unfold upL; rw [up_ne h, up_ne h3, up_ne h2, up_ne h1]
theorem upL_59 {k : Int} (h : k ≠ 37) : upL M lv w l e c g 59 k = M 59 k := by
  unfold upL; rw [up_app, if_neg (fun z => h z.2), up_ne (by decide), up_ne (by decide), up_ne (by decide)]
theorem upL_37 : upL M lv w l e c g 59 37 = g := by unfold upL; rw [up_app, if_pos ⟨rfl, rfl⟩]
theorem upL_69 {i : Int} : upL M lv w l e c g 69 i = if i = 4 * lv + w then l else M 69 i := by
  unfold upL
  rw [up_ne (by decide), up_ne (by decide), up_ne (by decide), up_app]
  by_cases h : i = 4 * lv + w
  · rw [if_pos ⟨rfl, h⟩, if_pos h]
  · rw [if_neg (fun z => h z.2), if_neg h]
theorem upL_71 {i : Int} : upL M lv w l e c g 71 i = if i = lv then e else M 71 i := by
  unfold upL
  rw [up_ne (by decide), up_ne (by decide), up_app, up_ne (by decide)]
  by_cases h : i = lv
  · rw [if_pos ⟨rfl, h⟩, if_pos h]
  · rw [if_neg (fun z => h z.2), if_neg h]
theorem upL_72 {i : Int} : upL M lv w l e c g 72 i = if i = lv then c else M 72 i := by
  unfold upL
  rw [up_ne (by decide), up_app, up_ne (by decide), up_ne (by decide)]
  by_cases h : i = lv
  · rw [if_pos ⟨rfl, h⟩, if_pos h]
  · rw [if_neg (fun z => h z.2), if_neg h]
/-- N keeps what M keeps, but for what the choice of wick w writes -/
def FU (lv w : Int) (M N : fM) : Prop := FL lv (upL M lv w (N 69 (4 * lv + w)) (N 71 lv) (N 72 lv) (N 59 37)) N
theorem upL_id : upL M lv w (M 69 (4 * lv + w)) (M 71 lv) (M 72 lv) (M 59 37) = M := by
  unfold upL
  rw [up_id rfl, up_id rfl, up_id rfl, up_id rfl]
theorem FU_refl : FU lv w M M := by unfold FU; rw [upL_id]; exact FL.refl
theorem FU_iff : FU lv w M N ↔ (∀ c, c ≠ 59 → (c < 68 ∨ 77 < c) → N c = M c) ∧ (∀ k, (k < 15 ∨ 29 < k) → k ≠ 44 → k ≠ 37 → N 59 k = M 59 k) ∧ (∀ i, i < 4 * lv + 4 → N 68 i = M 68 i ∧ (i ≠ 4 * lv + w → N 69 i = M 69 i)) ∧ ∀ i, i ≤ lv → N 70 i = M 70 i ∧ (i ≠ lv → N 71 i = M 71 i ∧ N 72 i = M 72 i) := by
  unfold FU FL
  constructor
  · rintro ⟨a, b, c, d⟩
    refine ⟨fun k h1 h2 => by rw [a k h1 h2, upL_c h1 (by omega) (by omega) (by omega)], fun k h1 h2 h3 => by rw [b k h1 h2, upL_59 h3], fun i h1 => ⟨by rw [(c i h1).1, upL_c (by decide) (by decide) (by decide) (by decide)], fun h2 => by rw [(c i h1).2, upL_69, if_neg h2]⟩, fun i h1 => ⟨by rw [(d i h1).1, upL_c (by decide) (by decide) (by decide) (by decide)], fun h2 => ⟨by rw [(d i h1).2.1, upL_71, if_neg h2], by rw [(d i h1).2.2, upL_72, if_neg h2]⟩⟩⟩
  · rintro ⟨a, b, c, d⟩
    refine ⟨fun k h1 h2 => by rw [a k h1 h2, upL_c h1 (by omega) (by omega) (by omega)], fun k h1 h2 => ?_, fun i h1 => ⟨by rw [(c i h1).1, upL_c (by decide) (by decide) (by decide) (by decide)], ?_⟩, fun i h1 => ⟨by rw [(d i h1).1, upL_c (by decide) (by decide) (by decide) (by decide)], ?_, ?_⟩⟩
    · by_cases h3 : k = 37
      · rw [h3, upL_37]
      · rw [upL_59 h3, b k h1 h2 h3]
    · rw [upL_69]
      by_cases h2 : i = 4 * lv + w
      · rw [if_pos h2, h2]
      · rw [if_neg h2, (c i h1).2 h2]
    · rw [upL_71]
      by_cases h2 : i = lv
      · rw [if_pos h2, h2]
      · rw [if_neg h2, ((d i h1).2 h2).1]
    · rw [upL_72]
      by_cases h2 : i = lv
      · rw [if_pos h2, h2]
      · rw [if_neg h2, ((d i h1).2 h2).2]
theorem FU_trans {K : fM} (h : FU lv w M N) (g' : FU lv w N K) : FU lv w M K := by
  rw [FU_iff] at *
  obtain ⟨a, b, c, d⟩ := h
  obtain ⟨a', b', c', d'⟩ := g'
  exact ⟨fun k h1 h2 => by rw [a' k h1 h2, a k h1 h2], fun k h1 h2 h3 => by rw [b' k h1 h2 h3, b k h1 h2 h3], fun i h1 => ⟨by rw [(c' i h1).1, (c i h1).1], fun h2 => by rw [(c' i h1).2 h2, (c i h1).2 h2]⟩, fun i h1 => ⟨by rw [(d' i h1).1, (d i h1).1], fun h2 => ⟨by rw [((d' i h1).2 h2).1, ((d i h1).2 h2).1], by rw [((d' i h1).2 h2).2, ((d i h1).2 h2).2]⟩⟩⟩
theorem FL_FU (h : FL lv M N) : FU lv w M N := FU_iff.mpr ⟨h.1, fun k a b _ => h.2.1 k a b, fun i a => ⟨(h.2.2.1 i a).1, fun _ => (h.2.2.1 i a).2⟩, fun i a => ⟨(h.2.2.2 i a).1, fun _ => (h.2.2.2 i a).2⟩⟩
theorem FU_up : FU lv w M (upL M lv w l e c g) := FU_iff.mpr ⟨fun k h1 h2 => upL_c h1 (by omega) (by omega) (by omega), fun k _ _ h3 => upL_59 h3, fun i _ => ⟨upL_c (k := 68) (by decide) (by decide) (by decide) (by decide) ▸ rfl, fun h2 => by rw [upL_69, if_neg h2]⟩, fun i _ => ⟨upL_c (k := 70) (by decide) (by decide) (by decide) (by decide) ▸ rfl, fun h2 => ⟨by rw [upL_71, if_neg h2], by rw [upL_72, if_neg h2]⟩⟩⟩
theorem FU_fin (h : FU lv w M N) (h1 : N 69 (4 * lv + w) = M 69 (4 * lv + w)) (h2 : N 71 lv = M 71 lv) (h3 : N 72 lv = M 72 lv) (h4 : N 59 37 = M 59 37) : FL lv M N := by
  unfold FU at h
  rw [h1, h2, h3, h4, upL_id] at h
  exact h
end Up
