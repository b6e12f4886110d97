/-! going through all tellings -/
def Res (S : sN → Prop) (E C A : Int → Int) : Prop := ∀ x, 0 ≤ x → x < 403 → Lst S kyE x UT (E x) ∧ Lst S kyC x UT (C x) ∧ Apt S x 0 (A x)
def prW (M : fM) (v : pV) (wp : Int) : Int → Int → Int → Int → Int := if wp = 0 then fun _ _ _ _ => 0 else prZ M v
theorem prW_rg {M : fM} {v : pV} {wp w j p t : Int} : 0 ≤ prW M v wp w j p t ∧ prW M v wp w j p t ≤ 99 := by
  unfold prW
  split
  · show (0 : Int) ≤ 0 ∧ (0 : Int) ≤ 99; omega
  · exact prZ_rg
theorem prX_W {M : fM} {v : pV} : prX M v = prW M v (M 39 12) := by
  funext w l p t
  unfold prX prW
  split <;> rfl
/-- what a search rests on: wicks, texts, the rule -/
def gOk (M : fM) (W : Int → pV) : Prop := WfK M ∧ (1 ≤ M 19 7 ∧ M 19 7 ≤ 6) ∧ (0 ≤ M 1 8 ∧ M 1 8 < M 19 7) ∧ ∀ k, 0 ≤ k → k ≤ 2 → TXs M (M 1 8) k (W k)
theorem gOk.eq {M N : fM} {W : Int → pV} (h : gOk M W) (e : ∀ c, c < 35 → N c = M c) : gOk N W := by
  obtain ⟨h1, h2, h3, h4⟩ := h
  have e1 := e 1 (by omega)
  refine ⟨?_, by rw [e 19 (by omega)]; exact h2, by rw [e1, e 19 (by omega)]; exact h3, fun k a b => ?_⟩
  · have h1 : WfC M 1 := h1
    show WfC N 1
    unfold WfC at *
    rw [e1, e (1 + 1) (by omega), e (1 + 2) (by omega), e (1 + 3) (by omega), e (1 + 4) (by omega), e (1 + 5) (by omega)]
    exact h1
  · rw [e1]
    exact TXs_congr (by omega) (fun c a b => e c (by omega)) (h4 k a b)
def gtM (N : fM) (n s w : Int) : fM := fun c i => if w < i ∧ i ≤ 3 then (if c = 48 then unZ n i else if c = 43 then (if bitZ s i = 1 then N 4 i else 0) else if c = 44 then 0 else N c i) else N c i
theorem gtM_3 {N : fM} {n s : Int} : gtM N n s 3 = N := by funext c i; unfold gtM; rw [if_neg (by omega)]
theorem gtM_ne {N : fM} {n s w : Int} {c : Nat} (h : c ≠ 48 ∧ c ≠ 43 ∧ c ≠ 44) : gtM N n s w c = N c := by
  funext i; unfold gtM; rw [if_neg h.1, if_neg h.2.1, if_neg h.2.2]; split <;> rfl
theorem gtM_lo {N : fM} {n s w i : Int} {c : Nat} (h : ¬ (w < i ∧ i ≤ 3)) : gtM N n s w c i = N c i := by unfold gtM; rw [if_neg h]
theorem gtM_at {N : fM} {n s w i : Int} (h : w < i ∧ i ≤ 3) : gtM N n s w 48 i = unZ n i ∧ gtM N n s w 43 i = (if bitZ s i = 1 then N 4 i else 0) ∧ gtM N n s w 44 i = 0 := by
  unfold gtM; rw [if_pos h, if_pos h, if_pos h]; exact ⟨rfl, rfl, rfl⟩
theorem gtM_step {N : fM} {n s w : Int} (h0 : 0 ≤ w) (h3 : w ≤ 3) : up (up (up (gtM N n s w) 48 w (unN n (3 - w).toNat)) 43 w (if bitZ s w = 1 then N 4 w else 0)) 44 w 0 = gtM N n s (w + -1) := by
  funext c i
  simp only [up_app]
  by_cases hi : i = w
  · subst hi
    by_cases h44 : c = 44
    · subst h44; rw [if_pos ⟨rfl, rfl⟩, (gtM_at (by omega)).2.2]
    · rw [if_neg (fun q => h44 q.1)]
      by_cases h43 : c = 43
      · subst h43; rw [if_pos ⟨rfl, rfl⟩, (gtM_at (by omega)).2.1]
      · rw [if_neg (fun q => h43 q.1)]
        by_cases h48 : c = 48
        · subst h48; rw [if_pos ⟨rfl, rfl⟩, (gtM_at (by omega)).1]; rfl
        · rw [if_neg (fun q => h48 q.1), gtM_ne ⟨h48, h43, h44⟩, gtM_ne ⟨h48, h43, h44⟩]
  · rw [if_neg (fun q => hi q.2), if_neg (fun q => hi q.2), if_neg (fun q => hi q.2)]
    unfold gtM
    by_cases h : w < i ∧ i ≤ 3
    · rw [if_pos h, if_pos (show w + -1 < i ∧ i ≤ 3 by omega)]
    · rw [if_neg h, if_neg (show ¬ (w + -1 < i ∧ i ≤ 3) by omega)]
theorem unN_s {n w : Int} (h : w ≤ 3) : unN n (3 - (w + -1)).toNat = unN n (3 - w).toNat * (if w < n then 10 else 1) := by
  rw [show (3 - (w + -1)).toNat = (3 - w).toNat + 1 by omega]
  show unN n (3 - w).toNat * (if 3 - ((3 - w).toNat : Int) < n then 10 else 1) = _
  rw [show 3 - ((3 - w).toNat : Int) = w by omega]
theorem bit_hi0 : ∀ (n : Fin 5) (s : Fin 16) (w : Fin 4), ((s.val : Nat) : Int) < shlI 1 ((n.val : Nat) : Int) → n.val ≤ w.val → bitZ ((s.val : Nat) : Int) ((w.val : Nat) : Int) = 0 := by decide +kernel
theorem shl_5 : ∀ n : Fin 5, shlI 1 ((n.val : Nat) : Int) ≤ 16 := by decide +kernel
theorem bit_hi {n s w : Int} (hn : 0 ≤ n ∧ n ≤ 4) (h0 : 0 ≤ s) (h1 : s < shlI 1 n) (hw : n ≤ w) (h4 : w < 4) : bitZ s w = 0 := by
  have h5 := shl_5 ⟨n.toNat, by omega⟩
  have e1 : ((n.toNat : Nat) : Int) = n := by omega
  have h5 : shlI 1 ((n.toNat : Nat) : Int) ≤ 16 := h5
  rw [e1] at h5
  have := bit_hi0 ⟨n.toNat, by omega⟩ ⟨s.toNat, by omega⟩ ⟨w.toNat, by omega⟩
  have this : ((s.toNat : Nat) : Int) < shlI 1 ((n.toNat : Nat) : Int) → n.toNat ≤ w.toNat → bitZ ((s.toNat : Nat) : Int) ((w.toNat : Nat) : Int) = 0 := this
  rw [e1, show ((s.toNat : Nat) : Int) = s by omega, show ((w.toNat : Nat) : Int) = w by omega] at this
  exact this h1 (by omega)
/-- the memory when the rows are laid -/
def GN (M : fM) (wp : Int) (N : fM) : Prop := (∀ c, c ≠ 39 → c ≠ 40 → c ≠ 41 → c ≠ 42 → c ≠ 45 → N c = M c) ∧ (∀ i, i ≠ 12 → N 39 i = M 39 i) ∧ N 39 12 = wp ∧ (∀ x, 0 ≤ x → x < 403 → N 40 x = UT ∧ N 41 x = UT ∧ N 42 x = 0) ∧ ∀ i, 0 ≤ i → i < 40 → N 45 i = 0
theorem GN.make {M : fM} {wp : Int} : GN M wp (up (fillM (fillM (fillM (fillM M 40 403 2147483647) 41 403 2147483647) 42 403 0) 45 40 0) 39 12 wp) := by
  have hf : ∀ (N : fM) (c c' : Nat) (k v i : Int), c' ≠ c → fillM N c k v c' i = N c' i := fun N c c' k v i h => by unfold fillM; rw [if_neg (fun q => h q.1)]
  have hg : ∀ (N : fM) (c : Nat) (k v i : Int), 0 ≤ i → i < k → fillM N c k v c i = v := fun N c k v i a b => by unfold fillM; rw [if_pos ⟨rfl, a, b⟩]
  refine ⟨fun c a b e f g => funext fun i => ?_, fun i hi => ?_, ?_, fun x a b => ⟨?_, ?_, ?_⟩, fun i a b => ?_⟩
  · rw [up_ne a, hf _ _ _ _ _ _ g, hf _ _ _ _ _ _ f, hf _ _ _ _ _ _ e, hf _ _ _ _ _ _ b]
  · rw [up_app, if_neg (fun q => hi q.2), hf _ _ _ _ _ _ (by decide), hf _ _ _ _ _ _ (by decide), hf _ _ _ _ _ _ (by decide), hf _ _ _ _ _ _ (by decide)]
  · rw [up_app, if_pos ⟨rfl, rfl⟩]
  · rw [up_ne (by decide), hf _ _ _ _ _ _ (by decide), hf _ _ _ _ _ _ (by decide), hf _ _ _ _ _ _ (by decide), hg _ _ _ _ _ a b]
  · rw [up_ne (by decide), hf _ _ _ _ _ _ (by decide), hf _ _ _ _ _ _ (by decide), hg _ _ _ _ _ a b]
  · rw [up_ne (by decide), hf _ _ _ _ _ _ (by decide), hg _ _ _ _ _ a b]
  · rw [up_ne (by decide), hg _ _ _ _ _ a b]
section GT
variable {M N K : fM} {W : Int → pV} {s q wp : Int}
theorem GN.st (h : GN M wp N) (hg : gOk M W) (hs : someP (M 1 5) (M 4) (M 5) s) (hq : 0 ≤ q ∧ q ≤ 9) (hv : ∀ j, 0 ≤ j → j < 12 → M 46 j = spN M q j) : tStat (gtM N (M 1 5) s (-1)) (W 0) ∧ tRow (gtM N (M 1 5) s (-1)) 0 := by
  obtain ⟨g1, g2, g3, g4⟩ := hg
  have hA := g1.A
  have hn := g1.n
  have eC : ∀ c, c ≠ 48 → c ≠ 43 → c ≠ 44 → c ≠ 39 → c ≠ 40 → c ≠ 41 → c ≠ 42 → c ≠ 45 → gtM N (M 1 5) s (-1) c = M c := fun c a b e f g i j k => by rw [gtM_ne ⟨a, b, e⟩, h.1 c f g i j k]
  have e1 := eC 1 (by decide) (by decide) (by decide) (by decide) (by decide) (by decide) (by decide) (by decide)
  have e46 := eC 46 (by decide) (by decide) (by decide) (by decide) (by decide) (by decide) (by decide) (by decide)
  have e4 : N 4 = M 4 := h.1 4 (by decide) (by decide) (by decide) (by decide) (by decide)
  have g0 : gOk M W := ⟨g1, g2, g3, g4⟩
  have gN := g0.eq (N := gtM N (M 1 5) s (-1)) (fun c hc => eC c (by omega) (by omega) (by omega) (by omega) (by omega) (by omega) (by omega) (by omega))
  have hr : ∀ w, 0 ≤ w → w < 4 → gtM N (M 1 5) s (-1) 43 (0 * 4 + w) = (if bitZ s w = 1 then M 4 w else 0) ∧ gtM N (M 1 5) s (-1) 44 (0 * 4 + w) = 0 := fun w a b => by
    rw [show (0 : Int) * 4 + w = w by omega, (gtM_at (by omega)).2.1, (gtM_at (by omega)).2.2, e4]; exact ⟨rfl, rfl⟩
  have hb : ∀ w, 0 ≤ w → w < 4 → bitZ s w = 1 → w < M 1 5 := fun w a b z => Classical.byContradiction fun y => by rw [bit_hi hn hs.1.1 hs.1.2 (by omega) b] at z; omega
  refine ⟨⟨gN.1, gN.2.1, gN.2.2.1, gN.2.2.2 0 (by omega) (by omega), fun w a b => by rw [(gtM_at (by omega)).1]; exact unZ_rg a b⟩, ⟨fun w a b => ?_, fun j a b => ?_⟩, ?_, fun w a b z => ?_⟩
  · rw [(hr w a b).1, (hr w a b).2]
    refine ⟨?_, by omega⟩
    by_cases z : bitZ s w = 1
    · rw [if_pos z]; exact (hA w a (hb w a b z)).2.2.1
    · rw [if_neg z]; omega
  · rw [e46, hv j a b]
    unfold spN
    by_cases z : j / 3 < M 1 5
    · rw [if_pos z]
      have hq1 := hA (j / 3) (by omega) z
      have := fastZ_rg (k := M 2 (j / 3)) (n := M 3 (j / 3)) (l := j % 3) (by omega) hq1.2.1 hq
      omega
    · rw [if_neg z]; omega
  · have a0 := cn1_rg (gtM N (M 1 5) s (-1) 43 (0 * 4 + 0))
    have a1 := cn1_rg (gtM N (M 1 5) s (-1) 43 (0 * 4 + 1))
    have a2 := cn1_rg (gtM N (M 1 5) s (-1) 43 (0 * 4 + 2))
    have a3 := cn1_rg (gtM N (M 1 5) s (-1) 43 (0 * 4 + 3))
    show cn1 (gtM N (M 1 5) s (-1) 43 (0 * 4 + 0)) + cn1 (gtM N (M 1 5) s (-1) 43 (0 * 4 + 1)) + cn1 (gtM N (M 1 5) s (-1) 43 (0 * 4 + 2)) + cn1 (gtM N (M 1 5) s (-1) 43 (0 * 4 + 3)) ≤ 4 - 0
    omega
  · rw [(hr w a b).1] at z
    rw [e1]
    by_cases y : bitZ s w = 1
    · exact hb w a b y
    · rw [if_neg y] at z; omega
theorem GN.ok (h : GN M wp N) (hg : gOk M W) (hs : someP (M 1 5) (M 4) (M 5) s) (hq : 0 ≤ q ∧ q ≤ 9) (hv : ∀ j, 0 ≤ j → j < 12 → M 46 j = spN M q j) (hK : (gtM N (M 1 5) s (-1) 39 12 = 0 ∧ K = gtM N (M 1 5) s (-1)) ∨ (gtM N (M 1 5) s (-1) 39 12 ≠ 0 ∧ apI (gtM N (M 1 5) s (-1)) (W 0) 0 0 (2 * gtM N (M 1 5) s (-1) 1 5) K)) : tOk K (W 0) 0 0 0 0 0 0 := by
  obtain ⟨s1, s2⟩ := h.st hg hs hq hv
  have e39 : gtM N (M 1 5) s (-1) 39 12 = wp := by rw [gtM_ne (by decide)]; exact h.2.2.1
  have e45 : ∀ i, 0 ≤ i → i < 40 → gtM N (M 1 5) s (-1) 45 i = 0 := fun i a b => by rw [gtM_ne (by decide)]; exact h.2.2.2.2 i a b
  have e44 : ∀ w, 0 ≤ w → w < 4 → gtM N (M 1 5) s (-1) 44 w = 0 := fun w a b => (gtM_at (by omega)).2.2
  rcases hK with ⟨z, rfl⟩ | ⟨z, hA, hB⟩
  · refine ⟨s1, s2, ⟨by omega, by omega, fun j a b => by omega⟩, ⟨by omega, by omega, by omega, by omega, by omega, fun _ => by omega⟩, fun _ w a b => e44 w a b, fun w l a b c d l0 l2 => ?_, fun _ => e45⟩
    unfold prX
    rw [if_pos z, e45 _ (by omega) (by omega)]
  · have c43 := hA 43 (by decide) (by decide) (by decide)
    have c44 := hA 44 (by decide) (by decide) (by decide)
    have c46 := hA 46 (by decide) (by decide) (by decide)
    have c1 := hA 1 (by decide) (by decide) (by decide)
    have c39 := hA 39 (by decide) (by decide) (by decide)
    refine ⟨s1.eq (fun c a b e => hA c a b (by omega)), ?_, ⟨by omega, by omega, fun j a b => by omega⟩, ⟨by omega, by omega, by omega, by omega, by omega, fun _ => by omega⟩, fun _ w a b => by rw [c44]; exact e44 w a b, fun w l a b c d l0 l2 => ?_, fun y => by rw [c39] at y; exact absurd y z⟩
    · unfold tRow tR at *
      rw [c43, c44, c46, c1]; exact s2
    · rw [c43] at c ⊢
      rw [c44] at d
      have hw := s2.2.2 w a b c
      have ei : ((0 * 4 + w) * 2 + l) / 2 = 0 * 4 + w := by omega
      rw [hB, if_pos ⟨by omega, by rw [ei]; exact c, by rw [ei]; omega⟩, ei, show ((0 * 4 + w) * 2 + l) % 2 = l by omega, show (0 : Int) * 4 + w - 0 * 4 = w by omega]
      rw [prX_eq c39 c1 (hA 4 (by decide) (by decide) (by decide)) (hA 6 (by decide) (by decide) (by decide))]
      unfold prX
      rw [if_neg z]
def gtP (M : fM) (W : Int → pV) (s q wp : Int) (K : fM) : Prop := (∀ c, (c < 35 ∨ (36 < c ∧ c < 39) ∨ c = 46 ∨ 48 < c) → K c = M c) ∧ (∀ i, i ≠ 12 → K 39 i = M 39 i) ∧ K 39 12 = wp ∧ Res (SC (M 1 5) s (M 4) (vZ (M 2) (M 3) q) (prW M (W 0) wp)) (K 40) (K 41) (K 42)
theorem GN.res (h : GN M wp N) (hg : gOk M W) (hs : someP (M 1 5) (M 4) (M 5) s) (hv : ∀ j, 0 ≤ j → j < 12 → M 46 j = spN M q j) {K' : fM} (hK : (gtM N (M 1 5) s (-1) 39 12 = 0 ∧ K = gtM N (M 1 5) s (-1)) ∨ (gtM N (M 1 5) s (-1) 39 12 ≠ 0 ∧ apI (gtM N (M 1 5) s (-1)) (W 0) 0 0 (2 * gtM N (M 1 5) s (-1) 1 5) K)) (hc : chP K (W 0) 0 0 0 0 0 0 K') : gtP M W s q wp K' := by
  have hn := hg.1.n
  have hKc : ∀ c, c ≠ 35 → c ≠ 36 → c ≠ 45 → K c = gtM N (M 1 5) s (-1) c := fun c a b e => by
    rcases hK with ⟨_, y⟩ | ⟨_, hA, _⟩
    · rw [y]
    · exact hA c a b e
  have eC : ∀ c, c ≠ 48 → c ≠ 43 → c ≠ 44 → c ≠ 39 → c ≠ 40 → c ≠ 41 → c ≠ 42 → c ≠ 45 → c ≠ 35 → c ≠ 36 → K c = M c := fun c a b e f g i j k l m => by rw [hKc c l m k, gtM_ne ⟨a, b, e⟩, h.1 c f g i j k]
  have k1 := eC 1 (by decide) (by decide) (by decide) (by decide) (by decide) (by decide) (by decide) (by decide) (by decide) (by decide)
  have k4 := eC 4 (by decide) (by decide) (by decide) (by decide) (by decide) (by decide) (by decide) (by decide) (by decide) (by decide)
  have k6 := eC 6 (by decide) (by decide) (by decide) (by decide) (by decide) (by decide) (by decide) (by decide) (by decide) (by decide)
  have k46 := eC 46 (by decide) (by decide) (by decide) (by decide) (by decide) (by decide) (by decide) (by decide) (by decide) (by decide)
  have k39 : ∀ i, K 39 i = N 39 i := fun i => by rw [hKc 39 (by decide) (by decide) (by decide), gtM_ne (by decide)]
  have c39 := hc.2.c 39 (by decide)
  have nb := h.1 4 (by decide) (by decide) (by decide) (by decide) (by decide)
  refine ⟨fun c hcc => ?_, fun i hi => by rw [c39, k39]; exact h.2.1 i hi, by rw [c39, k39]; exact h.2.2.1, ?_⟩
  · by_cases z : c = 48
    · omega
    · rw [hc.2.c c (by omega), eC c (by omega) (by omega) (by omega) (by omega) (by omega) (by omega) (by omega) (by omega) (by omega) (by omega)]
  · have eT : tS K 0 0 0 0 0 [0] = stS (M 1 5) s (M 4) := by
      refine Prod.ext (funext fun w => ?_) (Prod.ext (funext fun w => ?_) rfl)
      · show cut4 (fun w => K 43 (0 * 4 + w)) w = if (0 ≤ w ∧ w < M 1 5) ∧ bitZ s w = 1 then M 4 w else 0
        unfold cut4
        by_cases hw : 0 ≤ w ∧ w < 4
        · rw [if_pos hw]; show K 43 (0 * 4 + w) = _; rw [hKc 43 (by decide) (by decide) (by decide), show (0 : Int) * 4 + w = w by omega, (gtM_at (by omega)).2.1, nb]
          by_cases z : bitZ s w = 1
          · have : w < M 1 5 := Classical.byContradiction fun y => by rw [bit_hi hn hs.1.1 hs.1.2 (by omega) hw.2] at z; omega
            rw [if_pos z, if_pos ⟨⟨hw.1, this⟩, z⟩]
          · rw [if_neg z, if_neg (fun y => z y.2)]
        · rw [if_neg hw, if_neg (fun y => hw ⟨y.1.1, by omega⟩)]
      · show cut4 (fun w => K 44 (0 * 4 + w)) w = 0
        unfold cut4
        by_cases hw : 0 ≤ w ∧ w < 4
        · rw [if_pos hw]; show K 44 (0 * 4 + w) = _; rw [hKc 44 (by decide) (by decide) (by decide), show (0 : Int) * 4 + w = w by omega, (gtM_at (by omega)).2.2]
        · rw [if_neg hw]
    have eP : prX K (W 0) = prW M (W 0) wp := by
      rw [prX_W, k39, h.2.2.1]
      unfold prW
      have : prZ K (W 0) = prZ M (W 0) := by funext w l p t; unfold prZ; rw [k1, k4, k6]
      rw [this]
    have hj : ∀ w l, 0 ≤ w → w < M 1 5 → 1 ≤ l → l ≤ 2 → K 46 (w * 3 + l) = vZ (M 2) (M 3) q w l := fun w l a b c e => by
      rw [k46, hv _ (by omega) (by omega)]
      unfold spN
      rw [show (w * 3 + l) / 3 = w by omega, show (w * 3 + l) % 3 = l by omega, if_pos b]; rfl
    have eS : ∀ m, SC (M 1 5) s (M 4) (vZ (M 2) (M 3) q) (prW M (W 0) wp) m ↔ chS K (W 0) 0 0 0 0 0 0 m := fun m => by
      have h1 : chS K (W 0) 0 0 0 0 0 0 = emT (useZ K) (prX K (W 0)) (tV K) (K 48) (tS K 0 0 0 0 0 [0]) := rfl
      rw [h1, eT, eP]
      refine (emT_cg (n := M 1 5) (by omega) (fun w a b => ⟨?_, uZ_rg.2⟩) (fun _ _ _ => rfl) (fun w a b => ?_) (fun w l a b c e => hj w l a b c e) stS_sup).symm
      · unfold useZ uZ
        rw [hj w 1 a b (by omega) (by omega), hj w 2 a b (by omega) (by omega)]
      · rw [hKc 48 (by decide) (by decide) (by decide), (gtM_at (by omega)).1]
    intro x x0 x1
    have hx := (hc.1.congr eS) x x0 x1
    rw [hKc 40 (by decide) (by decide) (by decide), hKc 41 (by decide) (by decide) (by decide), hKc 42 (by decide) (by decide) (by decide), gtM_ne (by decide), gtM_ne (by decide), gtM_ne (by decide), (h.2.2.2.1 x x0 x1).1, (h.2.2.2.1 x x0 x1).2.1, (h.2.2.2.1 x x0 x1).2.2] at hx
    exact hx
end GT
theorem unN_le (n : Int) {k : Nat} (h : k ≤ 3) : 1 ≤ unN n k ∧ unN n k ≤ 1000 := by
  have := unN_rg n k h
  refine ⟨this.1, Int.le_trans this.2 ?_⟩
  repeat' split
  all_goals omega
set_option maxRecDepth 20000 in
set_option maxHeartbeats 4000000 in
theorem t_X4_goThrough {X : fX} {M : fM} {d : Nat} {W : Int → pV} {s q wp : Int} (hgk : gOk M W) (hs : someP (M 1 5) (M 4) (M 5) s) (hq : 0 ≤ q ∧ q ≤ 9) (hv : ∀ j, 0 ≤ j → j < 12 → M 46 j = spN M q j) (hwp : wp = 0 ∨ wp = 1) : fC X (d + 33) mX4_goThrough [.ref (xa X 39), .int (iv s), .int (iv wp)] M (QV fun K => gtP M W s q wp K) := by
  have hn := hgk.1.n
  have hrs : rg s := ⟨by have := hs.1.1; omega, by have := hs.1.2; have := (shl_rg (M 1 5)).2; omega⟩
  refine fC.of (L := [_, _, _, _, _]) (by decide +kernel) rfl (Nat.le_of_ble_eq_true rfl) (fun Z hZ hR => ?_)
  have loop : ∀ (N : fM), N 1 = M 1 → fG X mX4_goThrough Z 123 [.ref (xa X 39), .int (iv s), .int (iv wp), .null, .null] [] (gtM N (M 1 5) s (-1)) → ∀ (m : Nat) (w : Int), w + 1 = m → w ≤ 3 → fG X mX4_goThrough Z 44 [.ref (xa X 39), .int (iv s), .int (iv wp), .int (iv (unN (M 1 5) (3 - w).toNat)), .int (iv w)] [] (gtM N (M 1 5) s w) := by
    intro N hN1 hend m
    induction m with
    | zero =>
      intro w hw hw3
      refine f_iload hZ dX4_goThrough_44 rfl ?_
      refine f_lt (tgt := 123) hZ dX4_goThrough_46 rfl (by first | omega | exact rg_of _) (fun h46 => ?_) (fun h46 => ?_)
      · refine f_forget (L' := [_, _, _, .null, .null]) ⟨Or.inl rfl, Or.inl rfl, Or.inl rfl, Or.inr rfl, Or.inr rfl, trivial⟩ ?_
        have hwe : w = -1 := (by omega)
        subst hwe
        exact hend
      · exfalso; omega
    | succ m ih =>
      intro w hw hw3
      have hun := unN_le (M 1 5) (k := (3 - w).toNat) (by omega)
      refine f_iload hZ dX4_goThrough_44 rfl ?_
      refine f_lt (tgt := 123) hZ dX4_goThrough_46 rfl (by first | omega | exact rg_of _) (fun h46 => ?_) (fun h46 => ?_)
      · exfalso; omega
      · refine f_aload_n hZ dX4_goThrough_49 rfl ?_
        refine gX4_36 hZ dX4_goThrough_50 ?_
        refine f_iload hZ dX4_goThrough_53 rfl ?_
        refine f_iload_n hZ dX4_goThrough_55 rfl ?_
        refine f_iastore hZ dX4_goThrough_56 (by first | rfl | exact hC.t1 | exact hC.t2 | exact hC.t3 | exact hC.t4 | exact hC.t5) (by first | rfl | exact hC.l1 | exact hC.l2 | exact hC.l3 | exact hC.l4 | exact hC.l5) (by first | omega | exact rg_of _) (by first | omega | exact rg_of _) (by first | omega | exact rg_of _) ?_
        refine f_iload_n hZ dX4_goThrough_57 rfl ?_
        refine f_iload hZ dX4_goThrough_58 rfl ?_
        refine f_aload_n hZ dX4_goThrough_60 rfl ?_
        refine gX4_47 hZ dX4_goThrough_61 ?_
        refine gX4_91_1 hZ dX4_goThrough_64 (fun r64 => ?_)
        try simp only [up_ne (show (1 : Nat) ≠ 48 by decide), up_ne (show (4 : Nat) ≠ 48 by decide), gtM_ne (show (1 : Nat) ≠ 48 ∧ (1 : Nat) ≠ 43 ∧ (1 : Nat) ≠ 44 by decide), gtM_ne (show (4 : Nat) ≠ 48 ∧ (4 : Nat) ≠ 43 ∧ (4 : Nat) ≠ 44 by decide), hN1] at r64 ⊢
        refine f_ige (tgt := 75) hZ dX4_goThrough_67 rfl (by first | omega | exact rg_of _) (by first | omega | exact rg_of _) (fun h67 => ?_) (fun h67 => ?_)
        · refine f_iconst hZ dX4_goThrough_75 ?_
          refine f_imul hZ dX4_goThrough_76 ?_
          refine f_istore_n (L' := [_, _, _, _, _]) hZ dX4_goThrough_77 rfl rfl ?_
          refine f_aload_n hZ dX4_goThrough_78 rfl ?_
          refine gX4_21 hZ dX4_goThrough_79 ?_
          refine f_iload hZ dX4_goThrough_82 rfl ?_
          refine f_iload_n hZ dX4_goThrough_84 rfl ?_
          refine f_iload hZ dX4_goThrough_85 rfl ?_
          refine f_ishr hZ dX4_goThrough_87 ?_
          refine f_iconst hZ dX4_goThrough_88 ?_
          refine f_iand hZ dX4_goThrough_89 ?_
          refine f_iconst hZ dX4_goThrough_90 ?_
          refine f_ine (tgt := 107) hZ dX4_goThrough_91 rfl (by first | omega | exact rg_of _) (by first | omega | exact rg_of _) (fun h91 => ?_) (fun h91 => ?_)
          · refine f_iconst hZ dX4_goThrough_107 ?_
            refine f_iastore hZ dX4_goThrough_108 (by first | rfl | exact hC.t1 | exact hC.t2 | exact hC.t3 | exact hC.t4 | exact hC.t5) (by first | rfl | exact hC.l1 | exact hC.l2 | exact hC.l3 | exact hC.l4 | exact hC.l5) (by first | omega | exact rg_of _) (by first | omega | exact rg_of _) (by first | omega | exact rg_of _) ?_
            refine f_aload_n hZ dX4_goThrough_109 rfl ?_
            refine gX4_24 hZ dX4_goThrough_110 ?_
            refine f_iload hZ dX4_goThrough_113 rfl ?_
            refine f_iconst hZ dX4_goThrough_115 ?_
            refine f_iastore hZ dX4_goThrough_116 (by first | rfl | exact hC.t1 | exact hC.t2 | exact hC.t3 | exact hC.t4 | exact hC.t5) (by first | rfl | exact hC.l1 | exact hC.l2 | exact hC.l3 | exact hC.l4 | exact hC.l5) (by first | omega | exact rg_of _) (by first | omega | exact rg_of _) (by first | omega | exact rg_of _) ?_
            refine f_iinc (L' := [_, _, _, _, _]) hZ dX4_goThrough_117 rfl rfl ?_
            refine f_goto (tgt := 44) hZ dX4_goThrough_120 rfl ?_
            have hh := ih (w + -1) (by omega) (by omega)
            have hu : unN (M 1 5) (3 - (w + -1)).toNat = unN (M 1 5) (3 - w).toNat * (if w < M 1 5 then 10 else 1) := unN_s (by omega)
            have hg := gtM_step (N := N) (n := M 1 5) (s := s) (w := w) (by omega) (by omega)
            first | rw [if_pos (show w < M 1 5 by omega)] at hu | rw [if_neg (show ¬ w < M 1 5 by omega)] at hu
            first | rw [if_pos (show bitZ s w = 1 by unfold bitZ; omega)] at hg | rw [if_neg (show ¬ bitZ s w = 1 by unfold bitZ; omega)] at hg
            rw [hu, ← hg] at hh
            exact hh
          · refine f_aload_n hZ dX4_goThrough_94 rfl ?_
            refine gX4_47 hZ dX4_goThrough_95 ?_
            refine gX4_94_1 hZ dX4_goThrough_98 ?_
            refine f_iload hZ dX4_goThrough_101 rfl ?_
            refine f_iaload hZ dX4_goThrough_103 (by first | rfl | exact hC.t1 | exact hC.t2 | exact hC.t3 | exact hC.t4 | exact hC.t5) (by first | rfl | exact hC.l1 | exact hC.l2 | exact hC.l3 | exact hC.l4 | exact hC.l5) (by first | omega | exact rg_of _) (by first | omega | exact rg_of _) (fun r103 => ?_)
            try simp only [up_ne (show (1 : Nat) ≠ 48 by decide), up_ne (show (4 : Nat) ≠ 48 by decide), gtM_ne (show (1 : Nat) ≠ 48 ∧ (1 : Nat) ≠ 43 ∧ (1 : Nat) ≠ 44 by decide), gtM_ne (show (4 : Nat) ≠ 48 ∧ (4 : Nat) ≠ 43 ∧ (4 : Nat) ≠ 44 by decide), hN1] at r103 ⊢
            refine f_goto (tgt := 108) hZ dX4_goThrough_104 rfl ?_
            refine f_iastore hZ dX4_goThrough_108 (by first | rfl | exact hC.t1 | exact hC.t2 | exact hC.t3 | exact hC.t4 | exact hC.t5) (by first | rfl | exact hC.l1 | exact hC.l2 | exact hC.l3 | exact hC.l4 | exact hC.l5) (by first | omega | exact rg_of _) (by first | omega | exact rg_of _) (by first | omega | exact rg_of _) ?_
            refine f_aload_n hZ dX4_goThrough_109 rfl ?_
            refine gX4_24 hZ dX4_goThrough_110 ?_
            refine f_iload hZ dX4_goThrough_113 rfl ?_
            refine f_iconst hZ dX4_goThrough_115 ?_
            refine f_iastore hZ dX4_goThrough_116 (by first | rfl | exact hC.t1 | exact hC.t2 | exact hC.t3 | exact hC.t4 | exact hC.t5) (by first | rfl | exact hC.l1 | exact hC.l2 | exact hC.l3 | exact hC.l4 | exact hC.l5) (by first | omega | exact rg_of _) (by first | omega | exact rg_of _) (by first | omega | exact rg_of _) ?_
            refine f_iinc (L' := [_, _, _, _, _]) hZ dX4_goThrough_117 rfl rfl ?_
            refine f_goto (tgt := 44) hZ dX4_goThrough_120 rfl ?_
            have hh := ih (w + -1) (by omega) (by omega)
            have hu : unN (M 1 5) (3 - (w + -1)).toNat = unN (M 1 5) (3 - w).toNat * (if w < M 1 5 then 10 else 1) := unN_s (by omega)
            have hg := gtM_step (N := N) (n := M 1 5) (s := s) (w := w) (by omega) (by omega)
            first | rw [if_pos (show w < M 1 5 by omega)] at hu | rw [if_neg (show ¬ w < M 1 5 by omega)] at hu
            first | rw [if_pos (show bitZ s w = 1 by unfold bitZ; omega)] at hg | rw [if_neg (show ¬ bitZ s w = 1 by unfold bitZ; omega)] at hg
            rw [hu, ← hg] at hh
            exact hh
        · refine f_bipush hZ dX4_goThrough_70 ?_
          refine f_goto (tgt := 76) hZ dX4_goThrough_72 rfl ?_
          refine f_imul hZ dX4_goThrough_76 ?_
          refine f_istore_n (L' := [_, _, _, _, _]) hZ dX4_goThrough_77 rfl rfl ?_
          refine f_aload_n hZ dX4_goThrough_78 rfl ?_
          refine gX4_21 hZ dX4_goThrough_79 ?_
          refine f_iload hZ dX4_goThrough_82 rfl ?_
          refine f_iload_n hZ dX4_goThrough_84 rfl ?_
          refine f_iload hZ dX4_goThrough_85 rfl ?_
          refine f_ishr hZ dX4_goThrough_87 ?_
          refine f_iconst hZ dX4_goThrough_88 ?_
          refine f_iand hZ dX4_goThrough_89 ?_
          refine f_iconst hZ dX4_goThrough_90 ?_
          refine f_ine (tgt := 107) hZ dX4_goThrough_91 rfl (by first | omega | exact rg_of _) (by first | omega | exact rg_of _) (fun h91 => ?_) (fun h91 => ?_)
          · refine f_iconst hZ dX4_goThrough_107 ?_
            refine f_iastore hZ dX4_goThrough_108 (by first | rfl | exact hC.t1 | exact hC.t2 | exact hC.t3 | exact hC.t4 | exact hC.t5) (by first | rfl | exact hC.l1 | exact hC.l2 | exact hC.l3 | exact hC.l4 | exact hC.l5) (by first | omega | exact rg_of _) (by first | omega | exact rg_of _) (by first | omega | exact rg_of _) ?_
            refine f_aload_n hZ dX4_goThrough_109 rfl ?_
            refine gX4_24 hZ dX4_goThrough_110 ?_
            refine f_iload hZ dX4_goThrough_113 rfl ?_
            refine f_iconst hZ dX4_goThrough_115 ?_
            refine f_iastore hZ dX4_goThrough_116 (by first | rfl | exact hC.t1 | exact hC.t2 | exact hC.t3 | exact hC.t4 | exact hC.t5) (by first | rfl | exact hC.l1 | exact hC.l2 | exact hC.l3 | exact hC.l4 | exact hC.l5) (by first | omega | exact rg_of _) (by first | omega | exact rg_of _) (by first | omega | exact rg_of _) ?_
            refine f_iinc (L' := [_, _, _, _, _]) hZ dX4_goThrough_117 rfl rfl ?_
            refine f_goto (tgt := 44) hZ dX4_goThrough_120 rfl ?_
            have hh := ih (w + -1) (by omega) (by omega)
            have hu : unN (M 1 5) (3 - (w + -1)).toNat = unN (M 1 5) (3 - w).toNat * (if w < M 1 5 then 10 else 1) := unN_s (by omega)
            have hg := gtM_step (N := N) (n := M 1 5) (s := s) (w := w) (by omega) (by omega)
            first | rw [if_pos (show w < M 1 5 by omega)] at hu | rw [if_neg (show ¬ w < M 1 5 by omega)] at hu
            first | rw [if_pos (show bitZ s w = 1 by unfold bitZ; omega)] at hg | rw [if_neg (show ¬ bitZ s w = 1 by unfold bitZ; omega)] at hg
            rw [hu, ← hg] at hh
            exact hh
          · refine f_aload_n hZ dX4_goThrough_94 rfl ?_
            refine gX4_47 hZ dX4_goThrough_95 ?_
            refine gX4_94_1 hZ dX4_goThrough_98 ?_
            refine f_iload hZ dX4_goThrough_101 rfl ?_
            refine f_iaload hZ dX4_goThrough_103 (by first | rfl | exact hC.t1 | exact hC.t2 | exact hC.t3 | exact hC.t4 | exact hC.t5) (by first | rfl | exact hC.l1 | exact hC.l2 | exact hC.l3 | exact hC.l4 | exact hC.l5) (by first | omega | exact rg_of _) (by first | omega | exact rg_of _) (fun r103 => ?_)
            try simp only [up_ne (show (1 : Nat) ≠ 48 by decide), up_ne (show (4 : Nat) ≠ 48 by decide), gtM_ne (show (1 : Nat) ≠ 48 ∧ (1 : Nat) ≠ 43 ∧ (1 : Nat) ≠ 44 by decide), gtM_ne (show (4 : Nat) ≠ 48 ∧ (4 : Nat) ≠ 43 ∧ (4 : Nat) ≠ 44 by decide), hN1] at r103 ⊢
            refine f_goto (tgt := 108) hZ dX4_goThrough_104 rfl ?_
            refine f_iastore hZ dX4_goThrough_108 (by first | rfl | exact hC.t1 | exact hC.t2 | exact hC.t3 | exact hC.t4 | exact hC.t5) (by first | rfl | exact hC.l1 | exact hC.l2 | exact hC.l3 | exact hC.l4 | exact hC.l5) (by first | omega | exact rg_of _) (by first | omega | exact rg_of _) (by first | omega | exact rg_of _) ?_
            refine f_aload_n hZ dX4_goThrough_109 rfl ?_
            refine gX4_24 hZ dX4_goThrough_110 ?_
            refine f_iload hZ dX4_goThrough_113 rfl ?_
            refine f_iconst hZ dX4_goThrough_115 ?_
            refine f_iastore hZ dX4_goThrough_116 (by first | rfl | exact hC.t1 | exact hC.t2 | exact hC.t3 | exact hC.t4 | exact hC.t5) (by first | rfl | exact hC.l1 | exact hC.l2 | exact hC.l3 | exact hC.l4 | exact hC.l5) (by first | omega | exact rg_of _) (by first | omega | exact rg_of _) (by first | omega | exact rg_of _) ?_
            refine f_iinc (L' := [_, _, _, _, _]) hZ dX4_goThrough_117 rfl rfl ?_
            refine f_goto (tgt := 44) hZ dX4_goThrough_120 rfl ?_
            have hh := ih (w + -1) (by omega) (by omega)
            have hu : unN (M 1 5) (3 - (w + -1)).toNat = unN (M 1 5) (3 - w).toNat * (if w < M 1 5 then 10 else 1) := unN_s (by omega)
            have hg := gtM_step (N := N) (n := M 1 5) (s := s) (w := w) (by omega) (by omega)
            first | rw [if_pos (show w < M 1 5 by omega)] at hu | rw [if_neg (show ¬ w < M 1 5 by omega)] at hu
            first | rw [if_pos (show bitZ s w = 1 by unfold bitZ; omega)] at hg | rw [if_neg (show ¬ bitZ s w = 1 by unfold bitZ; omega)] at hg
            rw [hu, ← hg] at hh
            exact hh
  refine f_aload_n hZ dX4_goThrough_0 rfl ?_
  refine gX4_11 hZ dX4_goThrough_1 ?_
  refine f_ldc (v := (2147483647 : Int32)) hZ (2147483647) dX4_goThrough_4 (tb_in 569 (by decide +kernel) (by decide +kernel)) (by decide) ?_
  refine sX4_85 hZ dX4_goThrough_6 (t_fill rfl rfl (by omega)) (fun M6 h6 => ?_)
  subst h6
  refine f_aload_n hZ dX4_goThrough_9 rfl ?_
  refine gX4_15 hZ dX4_goThrough_10 ?_
  refine f_ldc (v := (2147483647 : Int32)) hZ (2147483647) dX4_goThrough_13 (tb_in 569 (by decide +kernel) (by decide +kernel)) (by decide) ?_
  refine sX4_85 hZ dX4_goThrough_15 (t_fill rfl rfl (by omega)) (fun M15 h15 => ?_)
  subst h15
  refine f_aload_n hZ dX4_goThrough_18 rfl ?_
  refine gX4_18 hZ dX4_goThrough_19 ?_
  refine f_iconst hZ dX4_goThrough_22 ?_
  refine sX4_85 hZ dX4_goThrough_23 (t_fill rfl rfl (by omega)) (fun M23 h23 => ?_)
  subst h23
  refine f_aload_n hZ dX4_goThrough_26 rfl ?_
  refine gX4_27 hZ dX4_goThrough_27 ?_
  refine f_iconst hZ dX4_goThrough_30 ?_
  refine sX4_85 hZ dX4_goThrough_31 (t_fill rfl rfl (by omega)) (fun M31 h31 => ?_)
  subst h31
  refine f_aload_n hZ dX4_goThrough_34 rfl ?_
  refine f_iload_n hZ dX4_goThrough_35 rfl ?_
  refine pX4_43 hZ dX4_goThrough_36 (by omega) ?_
  refine f_iconst hZ dX4_goThrough_39 ?_
  refine f_istore_n (L' := [_, _, _, _, _]) hZ dX4_goThrough_40 rfl rfl ?_
  refine f_iconst hZ dX4_goThrough_41 ?_
  refine f_istore (L' := [_, _, _, _, _]) hZ dX4_goThrough_42 rfl rfl ?_
  have hGN : GN M wp _ := GN.make
  have hN1 := hGN.1 1 (by decide) (by decide) (by decide) (by decide) (by decide)
  have hh := loop _ hN1 (by
    have hst := hGN.st hgk hs hq hv
    refine f_aload_n hZ dX4_goThrough_123 rfl ?_
    refine f_iconst hZ dX4_goThrough_124 ?_
    refine f_iconst hZ dX4_goThrough_125 ?_
    refine vX4_95 hZ dX4_goThrough_126 (t_X4_askPrices (v := W 0) (by omega) (by omega) hst.1.1 hst.2.1 hst.1.2.1 hst.1.2.2.1 hst.1.2.2.2.1) (fun M126 h126 => ?_)
    have hok := hGN.ok hgk hs hq hv h126
    refine f_aload_n hZ dX4_goThrough_129 rfl ?_
    refine f_iconst hZ dX4_goThrough_130 ?_
    refine f_iconst hZ dX4_goThrough_131 ?_
    refine f_iconst hZ dX4_goThrough_132 ?_
    refine f_iconst hZ dX4_goThrough_133 ?_
    refine f_iconst hZ dX4_goThrough_134 ?_
    refine f_iconst hZ dX4_goThrough_135 ?_
    refine vX4_99 hZ dX4_goThrough_136 (((t_X4_both (X := X) (v := W 0) 4 0 rfl).2 4 0 rfl d M126 0 0 0 0 hok).dep rfl) (fun M136 h136 => ?_)
    exact f_retV hZ hR dX4_goThrough_139 rfl (by exact hGN.res hgk hs hv h126 h136)) 4 3 (by omega) (by omega)
  rw [gtM_3] at hh
  exact hh

