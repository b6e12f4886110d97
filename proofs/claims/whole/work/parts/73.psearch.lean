/-! pairs of the search -/
section Sp
variable {M K K1 : fM} {W : Int → pV} {s wp d a x y r : Int}
theorem sm_iff (h : Rel M) : someP (M 1 5) (M 4) (M 5) s ↔ someP (M 59 12) (M 65) (M 66) s := by
  rw [h.1.1]
  exact someP_cg h.2.1.2.2.1 h.2.1.2.2.2.1
theorem prW_M (h : Rel M) {w : Int} (h0 : 0 ≤ w) (h1 : w < M 59 12) : prW M (W 0) wp w = prM M W wp w := by
  funext l p t
  unfold prW prM
  by_cases hw : wp = 0
  · rw [if_pos hw, if_pos hw]
  · rw [if_neg hw, if_neg hw]
    unfold prZ mprZ
    rw [h.1.2.1, h.2.1.2.2.1 w h0 h1, h.2.1.2.2.2.2 w h0 h1]
theorem cls_R (h : Rel M) (hp : shP M W s wp K) (h0 : 0 ≤ y) (h1 : y < 403) : Lst (SC (M 59 12) s (M 65) (vZ (M 63) (M 64) (M 59 13)) (prM M W (K 39 12))) kyE y UT (K 40 y) ∧ Lst (SC (M 59 12) s (M 65) (vZ (M 63) (M 64) (M 59 13)) (prM M W (K 39 12))) kyC y UT (K 41 y) ∧ Apt (SC (M 59 12) s (M 65) (vZ (M 63) (M 64) (M 59 13)) (prM M W (K 39 12))) y 0 (K 42 y) := by
  have hR := hp.2.2.2.2 y h0 h1
  rw [h.1.1, h.1.2.1] at hR
  have hS : ∀ m, SC (M 59 12) s (M 65) (vZ (M 63) (M 64) (M 59 13)) (prM M W (K 39 12)) m ↔ SC (M 59 12) s (M 4) (vZ (M 2) (M 3) (M 59 13)) (prW M (W 0) (K 39 12)) m := fun m => (SC_cg h.2.2.1.1.2 h.2.1.1 h.2.1.2.1 h.2.1.2.2.1 (fun w a b => prW_M h a b) m).symm
  exact ⟨Lst.congr hS hR.1, Lst.congr hS hR.2.1, Apt.congr hS hR.2.2⟩
theorem prM_eq (e : K 59 = M 59) (e5 : K 65 = M 65) (e7 : K 67 = M 67) : prM K W a = prM M W a := by
  funext w l p t
  unfold prM
  rw [mprZ_eq (by rw [e]) e5 e7]
theorem mod_S (hi : ∀ c, 49 ≤ c → K c = M c) : smS K W s d a = smS M W s d a := by
  unfold smS
  rw [hi 59 (by decide), hi 63 (by decide), hi 64 (by decide), hi 65 (by decide), prM_eq (hi 59 (by decide)) (hi 65 (by decide)) (hi 67 (by decide))]
theorem tlF_hi (hF : tlF M K) : ∀ c, 49 ≤ c → K c = M c := fun c hc => hF.1 c (by omega)
theorem hi_ok (h : Rel M) (hW : RWt M W) (hi : ∀ c, 49 ≤ c → K c = M c) : WfM K ∧ gokM K W := ⟨h.2.2.1.eq (fun k _ _ => by rw [hi 59 (by decide)]) (fun c a _ => hi c (by omega)), hW.1.eq (by rw [hi 59 (by decide)]) (hi 60 (by decide)) (hi 61 (by decide))⟩
/-- class and model note the same -/
theorem eq_E (h : Rel M) (hp : shP M W s wp K) (ht : tlP K W s (M 59 13) a x K1) (h0 : 0 ≤ y) (h1 : y ≤ 400) : K 40 y = vE K1 y := by
  have hL := (ht.2.2.1 y h0 h1).1
  rw [mod_S (tlF_hi hp.1)] at hL
  exact same_E h.2.2.1.1.2 (fun _ _ _ _ => prM_rg) (fun _ _ _ _ => prM_rg) (cls_R h hp h0 (by omega)).1 hL
theorem eq_C (h : Rel M) (hp : shP M W s wp K) (ht : tlP K W s (M 59 13) (K 39 12) x K1) (h0 : 0 ≤ y) (h1 : y ≤ 400) : K 41 y = vC K1 y := by
  have hL := (ht.2.2.1 y h0 h1).2
  rw [mod_S (tlF_hi hp.1)] at hL
  exact same_C (fun _ _ _ _ => prM_rg.1) (cls_R h hp h0 (by omega)).2.1 hL
theorem eq_far (h : Rel M) (hp : shP M W s wp K) (h0 : 400 < y) (h1 : y < 403) : K 40 y = UT := by
  have hL := (cls_R h hp (by omega) h1).1
  rcases hL.1 with e | ⟨m, hm, e, _⟩
  · exact e
  · have := SC_396 (fun _ _ => vZ_0) (fun w a b => (h.2.2.1.A w a b).2.2.1) hm
    omega
theorem eq_A (h : Rel M) (hp : shP M W s wp K) (ht : tlP K W s (M 59 13) a x K1) (h0 : 0 ≤ x) (h1 : x ≤ 400) : K 42 x = 1 ↔ K1 59 44 = 1 := by
  have hA := ht.2.2.2.1
  rw [mod_S (tlF_hi hp.1)] at hA
  exact same_A (fun _ _ _ _ => prM_rg.1) (cls_R h hp h0 (by omega)).2.2 hA
theorem RW_eq (h : Rel M) (hW : RWt M W) (e : ∀ c, (22 ≤ c ∧ c ≤ 34) ∨ c = 60 ∨ c = 61 → K1 c = M c) (e4 : K1 59 4 = M 59 4) : RWt K1 W := by
  refine ⟨hW.1.eq e4 (e 60 (by omega)) (e 61 (by omega)), fun k k0 k1 => ?_⟩
  rw [e4]
  have := h.2.2.2.2.1.2.1
  have := h.2.2.2.2.1.1
  exact TXs_congr (by omega) (fun c c1 c2 => e c (by omega)) (hW.2 k k0 k1)
theorem Rel_sr (h : Rel M) (hF : tlF M K) (hG : tlG K K1) (hN : RN K1) : Rel K1 := by
  have hi := tlF_hi hF
  have e : ∀ c, c < 35 ∨ (48 < c ∧ c ≠ 59 ∧ (c < 68 ∨ 77 < c)) → K1 c = M c := fun c hc => by rw [hG.1 c (by omega) (by omega), hF.1 c (by omega)]
  obtain ⟨r1, r2, r3, r4⟩ := h.2.2.2.2.2.2.2.2
  exact h.same (fun c hc => e c (by omega)) (by rw [e 0 (by omega)]) (by rw [e 19 (by omega)]) (by rw [e 19 (by omega)]) (fun k hk => by rw [hG.2 k (by omega), hi 59 (by decide)]) ⟨by rw [e 57 (by omega)]; exact r1, by rw [e 58 (by omega)]; exact r2, by rw [e 78 (by omega)]; exact r3, by rw [e 79 (by omega)]; exact r4⟩ hN
theorem RN_sr (h : Rel M) (hW : RWt M W) (hp : shP M W s wp K) (hs : someP (M 1 5) (M 4) (M 5) s) (hG : tlG K K1) : RN K1 := by
  have hF := hp.1
  have e : ∀ c, c < 35 ∨ (48 < c ∧ c ≠ 59 ∧ (c < 68 ∨ 77 < c)) → K1 c = M c := fun c hc => by rw [hG.1 c (by omega) (by omega), hF.1 c (by omega)]
  have lo : ∀ c, c < 59 → K1 c = K c := fun c hc => hG.1 c (by omega) (by omega)
  refine ⟨W, RW_eq h hW (fun c hc => e c (by omega)) (by rw [hG.2 4 (by omega), hF.1 59 (by omega)]), ?_⟩
  have q : prW K1 (W 0) (K1 39 12) = prW M (W 0) (K 39 12) := by rw [lo 39 (by decide)]; exact prW_eq (e 1 (by omega)) (e 4 (by omega)) (e 6 (by omega))
  refine ⟨by rw [lo 39 (by decide)]; exact hp.2.2.1, fun _ => ?_⟩
  rw [q, lo 39 (by decide), hp.2.1, e 1 (by omega), e 2 (by omega), e 3 (by omega), e 4 (by omega), e 5 (by omega), lo 40 (by decide), lo 41 (by decide), lo 42 (by decide)]
  exact ⟨hs, hp.2.2.2.2⟩
theorem spZ_cg {E F : Int → Int} {b : Int} (h : ∀ i, 0 ≤ i → i < 31 → (E (31 * b + i) ≠ UT ↔ F (31 * b + i) ≠ UT)) : spZ E b 31 = spZ F b 31 :=
  itZ_congr (fun k x k0 k1 => by
    unfold spF
    by_cases q : E (31 * b + k) ≠ UT
    · rw [if_pos q, if_pos ((h k k0 k1).mp q)]
    · rw [if_neg q, if_neg (fun z => q ((h k k0 k1).mpr z))])
theorem wrN_cg {E F f : Int → Int} : ∀ k : Nat, (∀ y : Int, 1 ≤ y → y ≤ k → E y = F y) → wrN E f k = wrN F f k
  | 0, _ => rfl
  | k + 1, h => by
    show (if E ((k : Int) + 1) ≠ UT ∧ (wrN E f k).1 < f ((k : Int) + 1) then _ else wrN E f k) = (if F ((k : Int) + 1) ≠ UT ∧ (wrN F f k).1 < f ((k : Int) + 1) then _ else wrN F f k)
    rw [wrN_cg k (fun y a b => h y a (by omega)), h ((k : Int) + 1) (by omega) (by omega)]
end Sp
theorem p_spans {X : fX} {M K : fM} {d : Nat} {W : Int → pV} {r : Int} {s b : Int} (h : Rel M) (hW : RWt M W) (hrs : rg s) (hb : rg b) (hc : (¬ spOk M s b ∧ r = -2 ∧ K = M) ∨ (spOk M s b ∧ shP M W s 0 K ∧ r = spZ (K 40) b 31)) : fC X (d + 81) mX7_spans [.ref (xa X 59), .int (iv s), .int (iv b)] K (QI fun r1 K1 => r1 = r ∧ Rel K1) := by
  rcases hc with ⟨c1, e2, e3⟩ | ⟨c1, c2, e2⟩
  · subst e2
    rw [e3]
    refine fC.mono (t_X7_spans hrs hb h.2.2.1 hW.1) (fun b2 K1 _ q => ?_)
    rcases q with ⟨q1, q2, q3⟩ | ⟨q1, _⟩
    · exact ⟨q2, by rw [q3]; exact h⟩
    · exact absurd (⟨q1.1, (sm_iff h).mpr q1.2⟩) c1
  · subst e2
    have hi := tlF_hi c2.1
    obtain ⟨wk, gk⟩ := hi_ok h hW hi
    have e59 : K 59 = M 59 := hi 59 (by decide)
    have e65 : K 65 = M 65 := hi 65 (by decide)
    have e66 : K 66 = M 66 := hi 66 (by decide)
    refine fC.mono (t_X7_spans hrs hb wk gk) (fun b2 K1 _ q => ?_)
    rw [e59, e65, e66] at q
    rcases q with ⟨q1, _⟩ | ⟨q1, q2, q3⟩
    · exact absurd ⟨c1.1, (sm_iff h).mp c1.2⟩ q1
    · refine ⟨?_, Rel_sr h c2.1 q2.1 (RN_sr h hW c2 c1.2 q2.1)⟩
      rw [q3]
      refine spZ_cg (fun i i0 i1 => ?_)
      have hb2 := c1.1
      unfold vS
      by_cases hy : 31 * b + i ≤ 400
      · rw [if_pos hy, eq_E h c2 q2 (by omega) hy]
      · rw [if_neg hy, eq_far h c2 (by omega) (by omega)]
theorem p_tell {X : fX} {M K : fM} {d : Nat} {W : Int → pV} {r : Int} {s x q : Int} (h : Rel M) (hW : RWt M W) (hrs : rg s) (hx : rg x) (hq : rg q) (hc : (¬ tlOk M s x q ∧ r = -2 ∧ K = M) ∨ (tlOk M s x q ∧ ∃ wp, (q = 1 → wp = 1) ∧ shP M W s wp K ∧ r = tellR (K 40) (K 41) x q)) : fC X (d + 81) mX7_tell [.ref (xa X 59), .int (iv s), .int (iv x), .int (iv q)] K (QI fun r1 K1 => r1 = r ∧ Rel K1) := by
  rcases hc with ⟨c1, e2, e3⟩ | ⟨c1, wp, hwp, c2, e2⟩
  · subst e2
    rw [e3]
    refine fC.mono (t_X7_tell hrs hx hq h.2.2.1 hW.1) (fun b2 K1 _ z => ?_)
    rcases z with ⟨q1, q2, q3⟩ | ⟨q1, _⟩
    · exact ⟨q2, by rw [q3]; exact h⟩
    · exact absurd (⟨q1.1, q1.2.1, (sm_iff h).mpr q1.2.2⟩) c1
  · subst e2
    have hi := tlF_hi c2.1
    obtain ⟨wk, gk⟩ := hi_ok h hW hi
    have e59 : K 59 = M 59 := hi 59 (by decide)
    have e65 : K 65 = M 65 := hi 65 (by decide)
    have e66 : K 66 = M 66 := hi 66 (by decide)
    refine fC.mono (t_X7_tell hrs hx hq wk gk) (fun b2 K1 _ z => ?_)
    rw [e59, e65, e66] at z
    rcases z with ⟨q1, _⟩ | ⟨q1, q2, q3⟩
    · exact absurd ⟨c1.1, c1.2.1, (sm_iff h).mp c1.2.2⟩ q1
    · refine ⟨?_, Rel_sr h c2.1 q2.1 (RN_sr h hW c2 c1.2.2 q2.1)⟩
      rw [q3]
      unfold tellR
      rw [eq_E h c2 q2 (by have := c1.1; omega) (by have := c1.1; omega)]
      by_cases h1 : q = 1
      · have h12 := c2.2.2.2.1 (hwp h1)
        rw [if_pos h1, ← h12] at q2
        rw [eq_C h c2 q2 (by have := c1.1; omega) (by have := c1.1; omega)]
      · rw [if_neg h1, if_neg h1]
theorem p_between {X : fX} {M K : fM} {d : Nat} {W : Int → pV} {r : Int} {s x : Int} (h : Rel M) (hW : RWt M W) (hrs : rg s) (hx : rg x) (hc : (¬ tlOk M s x 0 ∧ r = -2 ∧ K = M) ∨ (tlOk M s x 0 ∧ shP M W s 0 K ∧ bz r (K 42 x = 1))) : fC X (d + 81) mX7_between [.ref (xa X 59), .int (iv s), .int (iv x)] K (QI fun r1 K1 => r1 = r ∧ Rel K1) := by
  rcases hc with ⟨c1, e2, e3⟩ | ⟨c1, c2, e2⟩
  · subst e2
    rw [e3]
    refine fC.mono (t_X7_between hrs hx h.2.2.1 hW.1) (fun b2 K1 _ q => ?_)
    rcases q with ⟨q1, q2, q3⟩ | ⟨q1, _⟩
    · exact ⟨q2, by rw [q3]; exact h⟩
    · exact absurd (⟨q1.1, by decide, (sm_iff h).mpr q1.2⟩) c1
  · skip
    have hi := tlF_hi c2.1
    obtain ⟨wk, gk⟩ := hi_ok h hW hi
    have e59 : K 59 = M 59 := hi 59 (by decide)
    have e65 : K 65 = M 65 := hi 65 (by decide)
    have e66 : K 66 = M 66 := hi 66 (by decide)
    refine fC.mono (t_X7_between hrs hx wk gk) (fun b2 K1 _ q => ?_)
    rw [e59, e65, e66] at q
    rcases q with ⟨q1, _⟩ | ⟨q1, q2, q3⟩
    · exact absurd ⟨c1.1, (sm_iff h).mp c1.2.2⟩ q1
    · refine ⟨?_, Rel_sr h c2.1 q2.1 (RN_sr h hW c2 c1.2.2 q2.1)⟩
      have hA := eq_A h c2 q2 (by have := c1.1; omega) (by have := c1.1; omega)
      rcases e2 with ⟨u1, u2⟩ | ⟨u1, u2⟩ <;> rcases q3 with ⟨v1, v2⟩ | ⟨v1, v2⟩
      · rw [u1, v1]
      · exact absurd (hA.mp u2) v2
      · exact absurd (hA.mpr v2) u2
      · rw [u1, v1]
theorem p_worth {X : fX} {M K : fM} {d : Nat} {W : Int → pV} {r : Int} {s q : Int} (h : Rel M) (hW : RWt M W) (hrs : rg s) (hq : rg q) (hc : (¬ ((0 ≤ q ∧ q ≤ 1) ∧ someP (M 1 5) (M 4) (M 5) s) ∧ r = -2 ∧ K = M) ∨ (((0 ≤ q ∧ q ≤ 1) ∧ someP (M 1 5) (M 4) (M 5) s) ∧ shP M W s 0 K ∧ r = if q = 0 then (wrN (K 40) (woZ M W) 400).2 else (wrN (K 40) (woZ M W) 400).1)) : fC X (d + 81) mX7_worth [.ref (xa X 59), .int (iv s), .int (iv q)] K (QI fun r1 K1 => r1 = r ∧ Rel K1) := by
  rcases hc with ⟨c1, e2, e3⟩ | ⟨c1, c2, e2⟩
  · subst e2
    rw [e3]
    refine fC.mono (t_X7_worth hrs hq h.2.2.1 hW.1) (fun b2 K1 _ z => ?_)
    rcases z with ⟨q1, q2, q3⟩ | ⟨q1, _⟩
    · exact ⟨q2, by rw [q3]; exact h⟩
    · exact absurd (⟨q1.1, (sm_iff h).mpr q1.2⟩) c1
  · subst e2
    have hi := tlF_hi c2.1
    obtain ⟨wk, gk⟩ := hi_ok h hW hi
    have e59 : K 59 = M 59 := hi 59 (by decide)
    have e65 : K 65 = M 65 := hi 65 (by decide)
    have e66 : K 66 = M 66 := hi 66 (by decide)
    refine fC.mono (t_X7_worth hrs hq wk gk) (fun b2 K1 _ z => ?_)
    rw [e59, e65, e66] at z
    rcases z with ⟨q1, _⟩ | ⟨q1, q2, q3⟩
    · exact absurd ⟨c1.1, (sm_iff h).mp c1.2⟩ q1
    · refine ⟨?_, Rel_sr h c2.1 q2.1 (RN_sr h hW c2 c1.2 q2.1)⟩
      have hwo : woM K W = woZ M W := by
        funext y
        unfold woM woZ
        rw [e59, h.1.2.1]
      rw [q3, hwo, wrN_cg (E := K 40) (F := vE K1) 400 (fun y a b => eq_E h c2 q2 (by omega) (by omega))]
theorem p_sure {X : fX} {M K : fM} {d : Nat} {W : Int → pV} {r : Int} {s : Int} (h : Rel M) (hW : RWt M W) (hrs : rg s) (hc : (¬ someP (M 1 5) (M 4) (M 5) s ∧ r = -4611686018427387904 ∧ K = M) ∨ (someP (M 1 5) (M 4) (M 5) s ∧ tlF M K ∧ K 39 11 = -1 ∧ (K 39 12 = 0 ∨ K 39 12 = 1) ∧ r = suN (M 1 5) s (M 4) (M 2) (M 3) 10)) : fC X (d + 81) mX7_sure [.ref (xa X 59), .int (iv s)] K (QJ fun r1 K1 => r1 = r ∧ Rel K1) := by
  rcases hc with ⟨c1, e2, e3⟩ | ⟨c1, c2, c3, c4, e2⟩
  · subst e2
    rw [e3]
    refine fC.monoJ (t_X7_sure hrs h.2.2.1 hW.1) (fun b2 K1 _ q => ?_)
    rcases q with ⟨q1, q2, q3⟩ | ⟨q1, _⟩
    · exact ⟨q2, by rw [q3]; exact h⟩
    · exact absurd ((sm_iff h).mpr q1) c1
  · subst e2
    have hi := tlF_hi c2
    obtain ⟨wk, gk⟩ := hi_ok h hW hi
    have e59 : K 59 = M 59 := hi 59 (by decide)
    have e65 : K 65 = M 65 := hi 65 (by decide)
    have e66 : K 66 = M 66 := hi 66 (by decide)
    refine fC.monoJ (t_X7_sure hrs wk gk) (fun b2 K1 _ q => ?_)
    rw [e59, e65, e66, hi 63 (by decide), hi 64 (by decide)] at q
    rcases q with ⟨q1, _⟩ | ⟨q1, q2, q3⟩
    · exact absurd ((sm_iff h).mp c1) q1
    · have lo : ∀ c, c < 59 → K1 c = K c := fun c hc => q2.1 c (by omega) (by omega)
      have e : ∀ c, c < 35 ∨ (48 < c ∧ c ≠ 59 ∧ (c < 68 ∨ 77 < c)) → K1 c = M c := fun c hc => by rw [q2.1 c (by omega) (by omega), c2.1 c (by omega)]
      refine ⟨?_, Rel_sr h c2 q2 ⟨W, RW_eq h hW (fun c hc => e c (by omega)) (by rw [q2.2 4 (by omega), c2.1 59 (by omega)]), by rw [lo 39 (by decide)]; exact c4, fun z => absurd (by rw [lo 39 (by decide)]; exact c3) z⟩⟩
      rw [q3, h.1.1]
      exact (suN_cg h.2.2.1.1.2 h.2.1.1 h.2.1.2.1 h.2.1.2.2.1 10).symm
