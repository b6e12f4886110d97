/-! what binds class and model -/
def eqn (n : Int) (f g : Int → Int) : Prop := ∀ i, 0 ≤ i → i < n → f i = g i
theorem WfA_cg {n : Int} {K N P L B K' N' P' L' B' : Int → Int} (h : WfA n K N P L B) (hK : eqn n K' K) (hN : eqn n N' N) (hP : eqn n P' P) (hL : eqn n L' L) (hB : eqn n B' B) : WfA n K' N' P' L' B' := fun i a b => by
  rw [hK i a b, hN i a b, hP i a b, hL i a b, hB i a b]
  exact h i a b
def RF (M : fM) : Prop := M 1 5 = M 59 12 ∧ M 1 6 = M 59 13 ∧ M 1 7 = M 59 14 ∧ M 1 8 = M 59 4 ∧ M 19 6 = M 59 6 ∧ M 19 7 = M 59 3
def RA (M : fM) : Prop := eqn (M 59 12) (M 2) (M 63) ∧ eqn (M 59 12) (M 3) (M 64) ∧ eqn (M 59 12) (M 4) (M 65) ∧ eqn (M 59 12) (M 5) (M 66) ∧ eqn (M 59 12) (M 6) (M 67)
def RT (M : fM) : Prop := (0 ≤ M 59 6 ∧ M 59 6 ≤ 160) ∧ ∀ i, 0 ≤ i → i < M 59 6 → M 62 i = M 20 i ∧ 0 ≤ M 20 i ∧ M 20 i ≤ 255
def RX (M : fM) : Prop := (1 ≤ M 59 3 ∧ M 59 3 ≤ 6) ∧ (0 ≤ M 59 4 ∧ M 59 4 < M 59 3) ∧ ∀ t, 0 ≤ t → t < M 59 3 → ∃ B n, mTx M t B n ∧ ∀ k, 0 ≤ k → k ≤ 2 → TXs M t k (vtx B n k)
def RK (M : fM) : Prop := (M 0 8 = 0 ∧ M 59 53 = -1) ∨ (M 0 8 ≠ 0 ∧ (0 ≤ M 59 53 ∧ M 59 53 ≤ M 59 12) ∧ (0 ≤ M 59 54 ∧ M 59 54 ≤ 9) ∧ (0 ≤ M 59 55 ∧ M 59 55 ≤ 9999) ∧ (0 ≤ M 59 56 ∧ M 59 56 < M 59 3) ∧ (M 7 5 = M 59 53 ∧ M 7 6 = M 59 54 ∧ M 7 7 = M 59 55 ∧ M 7 8 = M 59 56) ∧ eqn (M 59 53) (M 8) (M 63) ∧ eqn (M 59 53) (M 9) (fun i => M 83 (12 + i)) ∧ eqn (M 59 53) (M 10) (M 83) ∧ eqn (M 59 53) (M 11) (fun i => M 83 (4 + i)) ∧ eqn (M 59 53) (M 12) (fun i => M 83 (8 + i)) ∧ WfA (M 59 53) (M 8) (M 9) (M 10) (M 11) (M 12))
def RS1 (M : fM) (s : Int) : Prop := (0 ≤ M 56 s ∧ M 56 s ≤ 40) ∧ ((M 55 s = -1 ∧ M 84 s = 0) ∨ ((0 ≤ M 55 s ∧ M 55 s ≤ 2) ∧ M 84 s = 1 ∧ M 85 s = M 55 s ∧ M 86 s = M 56 s ∧ eqn (M 56 s) (M (51 + s.toNat)) (fun i => M 87 (40 * s + i))))
def RH (M : fM) : Prop := ∀ s, 0 ≤ s → s < 4 → RS1 M s
def RWt (M : fM) (W : Int → pV) : Prop := gokM M W ∧ ∀ k, 0 ≤ k → k ≤ 2 → TXs M (M 59 4) k (W k)
def RN (M : fM) : Prop := ∃ W, RWt M W ∧ KN M W
def R9 (M : fM) : Prop := M 57 0 = 0 ∧ M 58 0 = 0 ∧ M 78 0 = 0 ∧ M 79 0 = 0
def Rel (M : fM) : Prop := RF M ∧ RA M ∧ WfM M ∧ RT M ∧ RX M ∧ RK M ∧ RH M ∧ RN M ∧ R9 M
theorem RX.W {M : fM} (h : RX M) : ∃ W, RWt M W := by
  obtain ⟨h1, h2, h3⟩ := h
  obtain ⟨B, n, a, b⟩ := h3 (M 59 4) h2.1 h2.2
  exact ⟨fun k => vtx B n k, ⟨by omega, B, n, a, fun _ _ _ => rfl⟩, b⟩
theorem RN_fgt {M : fM} (h : RX M) (h2 : M 39 12 = 0 ∨ M 39 12 = 1) (h1 : M 39 11 = -1) : RN M := by
  obtain ⟨W, hW⟩ := h.W
  exact ⟨W, hW, h2, fun q => absurd h1 q⟩
theorem Rel.WK {M : fM} (h : Rel M) : WfK M := by
  obtain ⟨⟨f1, f2, f3, f4, f5, f6⟩, ⟨a1, a2, a3, a4, a5⟩, ⟨w1, w2, w3, w4⟩, -⟩ := h
  show (0 ≤ M 1 5 ∧ M 1 5 ≤ 4) ∧ (0 ≤ M 1 6 ∧ M 1 6 ≤ 9) ∧ (0 ≤ M 1 7 ∧ M 1 7 ≤ 9999) ∧ WfA (M 1 5) (M 2) (M 3) (M 4) (M 5) (M 6)
  rw [f1, f2, f3]
  exact ⟨w1, w2, w3, WfA_cg w4 a1 a2 a3 a4 a5⟩
theorem Rel.gOk {M : fM} {W : Int → pV} (h : Rel M) (hW : RWt M W) : gOk M W := by
  have hk := h.WK
  obtain ⟨⟨f1, f2, f3, f4, f5, f6⟩, -, -, -, ⟨x1, x2, x3⟩, -⟩ := h
  refine ⟨hk, by rw [f6]; exact x1, by rw [f4, f6]; exact x2, ?_⟩
  rw [f4]; exact hW.2
theorem Rel.WS {M : fM} (h : Rel M) : WfS M := fun s a b => by
  obtain ⟨h1, h2⟩ := h.2.2.2.2.2.2.1 s a b
  refine ⟨?_, h1⟩
  rcases h2 with z | z
  · omega
  · have := z.1; omega
theorem Rel.WT {M : fM} (h : Rel M) : WfT M := fun s a b => by
  obtain ⟨h1, h2⟩ := h.2.2.2.2.2.2.1 s a b
  rcases h2 with z | z
  · exact ⟨Or.inl z.2, fun q => by omega⟩
  · exact ⟨Or.inr z.2.1, fun _ => by rw [z.2.2.1, z.2.2.2.1]; exact ⟨z.1, h1⟩⟩
/-- what binds class and model stays, if what it speaks of stays -/
theorem mTx_eq {M N : fM} {t n : Int} {B : Int → Int} (h : mTx M t B n) (e1 : N 60 = M 60) (e2 : N 61 = M 61) : mTx N t B n := by
  unfold mTx at *
  rw [e1, e2]; exact h
theorem Rel.same {M K : fM} (h : Rel M) (e : ∀ c, ((1 ≤ c ∧ c ≤ 12) ∨ c = 20 ∨ (22 ≤ c ∧ c ≤ 34) ∨ (51 ≤ c ∧ c ≤ 56) ∨ (60 ≤ c ∧ c ≤ 67) ∨ (83 ≤ c ∧ c ≤ 87)) → K c = M c) (e0 : K 0 8 = M 0 8) (e6 : K 19 6 = M 19 6) (e7 : K 19 7 = M 19 7) (e59 : ∀ k, (k < 15 ∨ 52 < k) → K 59 k = M 59 k) (h9 : R9 K) (hN : RN K) : Rel K := by
  obtain ⟨⟨f1, f2, f3, f4, f5, f6⟩, ⟨a1, a2, a3, a4, a5⟩, hW, ⟨t1, t2⟩, ⟨x1, x2, x3⟩, hk, hs, -, -⟩ := h
  have q1 := e 1 (by omega)
  have g12 := e59 12 (by omega)
  have g3 := e59 3 (by omega)
  have g4 := e59 4 (by omega)
  have g6 := e59 6 (by omega)
  have g53 := e59 53 (by omega)
  refine ⟨⟨?_, ?_, ?_, ?_, ?_, ?_⟩, ⟨?_, ?_, ?_, ?_, ?_⟩, hW.eq (fun k a b => e59 k (by omega)) (fun c a b => e c (by omega)), ⟨by rw [g6]; exact t1, ?_⟩, ⟨by rw [g3]; exact x1, by rw [g4, g3]; exact x2, fun t a b => ?_⟩, ?_, fun s a b => ?_, hN, h9⟩
  · rw [q1, g12]; exact f1
  · rw [q1, e59 13 (by omega)]; exact f2
  · rw [q1, e59 14 (by omega)]; exact f3
  · rw [q1, g4]; exact f4
  · rw [e6, g6]; exact f5
  · rw [e7, g3]; exact f6
  · rw [g12, e 2 (by omega), e 63 (by omega)]; exact a1
  · rw [g12, e 3 (by omega), e 64 (by omega)]; exact a2
  · rw [g12, e 4 (by omega), e 65 (by omega)]; exact a3
  · rw [g12, e 5 (by omega), e 66 (by omega)]; exact a4
  · rw [g12, e 6 (by omega), e 67 (by omega)]; exact a5
  · rw [g6, e 62 (by omega), e 20 (by omega)]; exact t2
  · rw [g3] at b
    obtain ⟨B, n, p, q⟩ := x3 t a b
    exact ⟨B, n, mTx_eq p (e 60 (by omega)) (e 61 (by omega)), fun k k0 k1 => TXs_congr (by omega) (fun c c1 c2 => e c (by omega)) (q k k0 k1)⟩
  · unfold RK
    rw [e0, g53, g12, g3, e59 54 (by omega), e59 55 (by omega), e59 56 (by omega), e 7 (by omega), e 8 (by omega), e 9 (by omega), e 10 (by omega), e 11 (by omega), e 12 (by omega), e 63 (by omega), e 83 (by omega)]
    exact hk
  · unfold RS1
    rw [e 55 (by omega), e 56 (by omega), e 84 (by omega), e 85 (by omega), e 86 (by omega), e 87 (by omega), e (51 + s.toNat) (by omega)]
    exact hs s a b
/-! the same functions of the same wicks -/
section Cgr
variable {n : Int} {K N P L B K' N' P' L' B' : Int → Int}
theorem tmax_cg {f g : Int → Int → Int} {a : Int} (h : ∀ k x, 0 ≤ k → k < n → f k x = g k x) : itZ f a n = itZ g a n := itZ_congr h
theorem sumN_cg {f g : Int → Int} : ∀ k : Nat, (∀ i : Int, 0 ≤ i → i < k → f i = g i) → sumN f k = sumN g k
  | 0, _ => rfl
  | k + 1, h => by
    show sumN f k + f (k : Int) = sumN g k + g (k : Int)
    rw [sumN_cg k (fun i a b => h i a (by omega)), h k (by omega) (by omega)]
theorem sumZ_cg {f g : Int → Int} (h : eqn n f g) : sumZ f n = sumZ g n := sumN_cg _ (fun i a b => h i a (by omega))
theorem toldZ_cg (hK : eqn n K' K) (hN : eqn n N' N) (hP : eqn n P' P) (hL : eqn n L' L) (hB : eqn n B' B) {d w q : Int} : toldZ n K' N' P' L' B' d w q = toldZ n K N P L B d w q := by
  unfold toldZ
  by_cases h : 0 ≤ w ∧ w < n ∧ 0 ≤ q ∧ q ≤ 8
  · rw [hK w h.1 h.2.1, hN w h.1 h.2.1, hP w h.1 h.2.1, hL w h.1 h.2.1, hB w h.1 h.2.1]
  · rw [if_pos h, if_pos h]
theorem outZ_cg (hK : eqn n K' K) (hN : eqn n N' N) (hP : eqn n P' P) (hL : eqn n L' L) {d w : Int} : outZ n K' N' P' L' d w = outZ n K N P L d w := by
  unfold outZ
  by_cases h : 0 ≤ w ∧ w < n
  · rw [hK w h.1 h.2, hN w h.1 h.2, hP w h.1 h.2, hL w h.1 h.2]
  · rw [if_pos h, if_pos h]
theorem countZ_cg (hP : eqn n P' P) (hL : eqn n L' L) {a b c d e q : Int} : countZ n P' L' a b c d e q = countZ n P L a b c d e q := by
  unfold countZ
  rw [sumZ_cg hP, sumZ_cg (f := litO L') (g := litO L) (fun i a b => by unfold litO; rw [hL i a b])]
theorem whichZ_cg (hK : eqn n K' K) (hN : eqn n N' N) (hP : eqn n P' P) (hB : eqn n B' B) {a : Int} : whichZ K' N' P' B' n a = whichZ K N P B n a :=
  itZ_congr (fun k x a b => by unfold whichF; rw [hK k a b, hN k a b, hP k a b, hB k a b])
theorem drawZ_cg (hK : eqn n K' K) (hN : eqn n N' N) (hP : eqn n P' P) (hL : eqn n L' L) {d s : Int} : drawZ K' N' P' L' n d s = drawZ K N P L n d s :=
  itZ_congr (fun k x a b => by
    unfold drawF drawT
    have e : drawE L' s k = drawE L s k := by unfold drawE; rw [hL k a b]
    rw [e, hK k a b, hN k a b, hP k a b])
theorem chanceZ_cg (hK : eqn n K' K) (hN : eqn n N' N) (hP : eqn n P' P) (hL : eqn n L' L) {d s m x y : Int} : chanceZ K' N' P' L' n d s m x y = chanceZ K N P L n d s m x y := by
  have e : hitF K' N' P' L' n d s x = hitF K N P L n d s x := by
    funext i; unfold hitF; rw [drawZ_cg hK hN hP hL]
  unfold chanceZ
  rw [e]
noncomputable def tkV (n : Int) (K N : Int → Int) (w k : Int) : Int := if ¬ (0 ≤ k ∧ k ≤ 5) then -2 else if ¬ (0 ≤ w ∧ w < n) then -11 else @ite _ (underP (K w) k) (Classical.propDecidable _) (N w) (-13)
theorem takenP_V {n : Int} {K N : Int → Int} {w k r : Int} (h : takenP n K N w k r) : r = tkV n K N w k := by
  unfold tkV
  rcases h with ⟨a, b⟩ | ⟨a, c, b⟩ | ⟨a, c, e, b⟩ | ⟨a, c, e, b⟩
  · rw [if_pos a]; exact b
  · rw [if_neg (fun z => z a), if_pos c]; exact b
  · rw [if_neg (fun z => z a), if_neg (fun z => z c), if_pos e]; exact b
  · rw [if_neg (fun z => z a), if_neg (fun z => z c), if_neg e]; exact b
theorem takenP_cg (hK : eqn n K' K) (hN : eqn n N' N) {w k r r' : Int} (h : takenP n K' N' w k r) (h' : takenP n K N w k r') : r = r' := by
  rw [takenP_V h, takenP_V h']
  unfold tkV
  by_cases hw : 0 ≤ w ∧ w < n
  · rw [hK w hw.1 hw.2, hN w hw.1 hw.2]
  · rw [if_pos hw, if_pos hw]
theorem setR_cg (hN : eqn n N' N) (hP : eqn n P' P) (hL : eqn n L' L) (hB : eqn n B' B) {d m q w : Int} (h : q < 4 → 0 ≤ w ∧ w < n) : setR N' P' L' B' d m q w = setR N P L B d m q w := by
  unfold setR
  by_cases hq : q < 4
  · have hw := h hq
    rw [hN w hw.1 hw.2, hP w hw.1 hw.2, hL w hw.1 hw.2, hB w hw.1 hw.2]
  · simp only [show ¬ q = 0 by omega, show ¬ q = 1 by omega, show ¬ q = 2 by omega, show ¬ q = 3 by omega, if_false]
theorem someP_cg (hP : eqn n P' P) (hL : eqn n L' L) {s : Int} : someP n P' L' s ↔ someP n P L s := by
  unfold someP
  refine and_congr Iff.rfl ⟨fun h w a b c => ?_, fun h w a b c => ?_⟩
  · rw [← hP w a b, ← hL w a b]; exact h w a b c
  · rw [hP w a b, hL w a b]; exact h w a b c
end Cgr
