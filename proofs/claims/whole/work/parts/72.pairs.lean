/-! pairs that change nothing -/
theorem fC.monoJ {X : fX} {d : Nat} {y : fY} {As : List Value} {M : fM} {P P' : Int → fM → Prop} (h : fC X d y As M (QJ P)) (hp : ∀ a M', rj a → P a M' → P' a M') : fC X d y As M (QJ P') := fun hm => by
  intro p e ha hc hk s m args below hf happ hP hT
  obtain ⟨n, o, h1, h2, h3, ⟨r, M1, e1, ⟨a, e2, ra, pa⟩, h6⟩, h7⟩ := h hm p e ha hc hk s m args below hf happ hP hT
  exact ⟨n, o, h1, h2, h3, ⟨r, M1, e1, ⟨a, e2, ra, hp a M1 ra pa⟩, h6⟩, h7⟩
theorem p_told {X : fX} {M K : fM} {d : Nat} {r : Int} {w q : Int} (h : Rel M) (hw : rg w) (hq : rg q) (hc : K = M ∧ r = toldZ (M 1 5) (M 2) (M 3) (M 4) (M 5) (M 6) (M 1 6) w q) : fC X (d + 2) mX7_told [.ref (xa X 59), .int (iv w), .int (iv q)] K (QI fun r1 K1 => r1 = r ∧ Rel K1) := by
  obtain ⟨⟨f1, f2, f3, f4, f5, f6⟩, ⟨a1, a2, a3, a4, a5⟩, hW, -⟩ := id h
  obtain ⟨e1, e2⟩ := hc
  rw [e1, e2]
  refine fC.mono (t_X7_told hw hq hW) (fun a M1 _ q => ⟨?_, by rw [q.1]; exact h⟩)
  rw [q.2, f1, f2]
  exact (toldZ_cg a1 a2 a3 a4 a5).symm
theorem p_out {X : fX} {M K : fM} {d : Nat} {r : Int} {w : Int} (h : Rel M) (hw : rg w) (hc : K = M ∧ r = outZ (M 1 5) (M 2) (M 3) (M 4) (M 5) (M 1 6) w) : fC X (d + 2) mX7_out [.ref (xa X 59), .int (iv w)] K (QI fun r1 K1 => r1 = r ∧ Rel K1) := by
  obtain ⟨⟨f1, f2, f3, f4, f5, f6⟩, ⟨a1, a2, a3, a4, a5⟩, hW, -⟩ := id h
  obtain ⟨e1, e2⟩ := hc
  rw [e1, e2]
  refine fC.mono (t_X7_out hw hW) (fun a M1 _ q => ⟨?_, by rw [q.1]; exact h⟩)
  rw [q.2, f1, f2]
  exact (outZ_cg a1 a2 a3 a4).symm
theorem p_drawn {X : fX} {M K : fM} {d : Nat} {r : Int} {s : Int} (h : Rel M)  (hc : K = M ∧ r = drawZ (M 2) (M 3) (M 4) (M 5) (M 1 5) (M 1 6) s) : fC X (d + 1) mX7_drawn [.ref (xa X 59), .int (iv s)] K (QI fun r1 K1 => r1 = r ∧ Rel K1) := by
  obtain ⟨⟨f1, f2, f3, f4, f5, f6⟩, ⟨a1, a2, a3, a4, a5⟩, hW, -⟩ := id h
  obtain ⟨e1, e2⟩ := hc
  rw [e1, e2]
  refine fC.mono (t_X7_drawn hW) (fun a M1 _ q => ⟨?_, by rw [q.1]; exact h⟩)
  rw [q.2, f1, f2]
  exact (drawZ_cg a1 a2 a3 a4).symm
theorem p_chance {X : fX} {M K : fM} {d : Nat} {r : Int} {s n sp pt : Int} (h : Rel M) (hn0 : rg n) (hsp : rg sp) (hpt : rg pt) (hc : K = M ∧ r = chanceZ (M 2) (M 3) (M 4) (M 5) (M 1 5) (M 1 6) s n sp pt) : fC X (d + 2) mX7_chance [.ref (xa X 59), .int (iv s), .int (iv n), .int (iv sp), .int (iv pt)] K (QJ fun r1 K1 => r1 = r ∧ Rel K1) := by
  obtain ⟨⟨f1, f2, f3, f4, f5, f6⟩, ⟨a1, a2, a3, a4, a5⟩, hW, -⟩ := id h
  obtain ⟨e1, e2⟩ := hc
  rw [e1, e2]
  refine fC.monoJ (t_X7_chance hn0 hsp hpt hW) (fun a M1 _ q => ⟨?_, by rw [q.1]; exact h⟩)
  rw [q.2, f1, f2]
  exact (chanceZ_cg a1 a2 a3 a4).symm
theorem p_count {X : fX} {M K : fM} {d : Nat} {r : Int} {q : Int} (h : Rel M) (hq : rg q) (hc : K = M ∧ r = countZ (M 1 5) (M 4) (M 5) (M 1 6) (M 1 7) (M 19 7) (M 19 6) (M 1 8) q) : fC X (d + 1) mX7_count [.ref (xa X 59), .int (iv q)] K (QI fun r1 K1 => r1 = r ∧ Rel K1) := by
  obtain ⟨⟨f1, f2, f3, f4, f5, f6⟩, ⟨a1, a2, a3, a4, a5⟩, hW, -⟩ := id h
  obtain ⟨e1, e2⟩ := hc
  rw [e1, e2]
  refine fC.mono (t_X7_count hq hW) (fun a M1 _ q => ⟨?_, by rw [q.1]; exact h⟩)
  rw [q.2, f1, f2, f3, f4, f5, f6]
  exact (countZ_cg a3 a4).symm
theorem p_cheat {X : fX} {M K : fM} {d : Nat} {r : Int} {w : Int} (h : Rel M) (hw : rg w) (hc : K = M ∧ ((¬ (0 ≤ w ∧ w < M 1 5 ∧ M 4 w ≠ 0) ∧ r = -2) ∨ ((0 ≤ w ∧ w < M 1 5 ∧ M 4 w ≠ 0) ∧ cheatP (M 4 w) (M 2 w) (M 3 w) r))) : fC X (d + 2) mX7_cheat [.ref (xa X 59), .int (iv w)] K (QI fun r1 K1 => r1 = r ∧ Rel K1) := by
  obtain ⟨⟨f1, f2, f3, f4, f5, f6⟩, ⟨a1, a2, a3, a4, a5⟩, hW, -⟩ := id h
  obtain ⟨e1, e2⟩ := hc
  rw [e1]
  refine fC.mono (t_X7_cheat hw hW) (fun a M1 _ q => ⟨?_, by rw [q.1]; exact h⟩)
  rw [f1] at e2
  have q := q.2
  by_cases hw2 : 0 ≤ w ∧ w < M 59 12
  · rw [a1 w hw2.1 hw2.2, a2 w hw2.1 hw2.2, a3 w hw2.1 hw2.2] at e2
    rcases e2 with ⟨z, e2⟩ | ⟨z, e2⟩
    · rcases q with ⟨y, q⟩ | ⟨y, q⟩
      · rw [e2, q]
      · exact absurd y z
    · rcases q with ⟨y, q⟩ | ⟨y, q⟩
      · exact absurd z y
      · exact cheatP_one q e2
  · rcases e2 with ⟨z, e2⟩ | ⟨z, e2⟩
    · rcases q with ⟨y, q⟩ | ⟨y, q⟩
      · rw [e2, q]
      · exact absurd ⟨y.1, y.2.1⟩ hw2
    · exact absurd ⟨z.1, z.2.1⟩ hw2
theorem p_which {X : fX} {M K : fM} {d : Nat} {r : Int} {a : Int} (h : Rel M) (ha : rg a) (hc : K = M ∧ ((¬ (0 ≤ a ∧ a ≤ 9999) ∧ r = -2) ∨ ((0 ≤ a ∧ a ≤ 9999) ∧ r = whichZ (M 2) (M 3) (M 4) (M 6) (M 1 5) a))) : fC X (d + 2) mX7_which [.ref (xa X 59), .int (iv a)] K (QI fun r1 K1 => r1 = r ∧ Rel K1) := by
  obtain ⟨⟨f1, f2, f3, f4, f5, f6⟩, ⟨a1, a2, a3, a4, a5⟩, hW, -⟩ := id h
  obtain ⟨e1, e2⟩ := hc
  rw [e1]
  refine fC.mono (t_X7_which ha hW) (fun b M1 _ q => ⟨?_, by rw [q.1]; exact h⟩)
  rw [f1, whichZ_cg a1 a2 a3 a5] at e2
  have q := q.2
  rcases e2 with ⟨z, e2⟩ | ⟨z, e2⟩
  · rcases q with ⟨y, q⟩ | ⟨y, q⟩
    · rw [e2, q]
    · exact absurd y z
  · rcases q with ⟨y, q⟩ | ⟨y, q⟩
    · exact absurd z y
    · rw [e2, q]
theorem p_taken {X : fX} {M K : fM} {d : Nat} {r : Int} {w k : Int} (h : Rel M) (hw : rg w) (hk : rg k) (hc : K = M ∧ takenP (M 1 5) (M 2) (M 3) w k r) : fC X (d + 2) mX7_taken [.ref (xa X 59), .int (iv w), .int (iv k)] K (QI fun r1 K1 => r1 = r ∧ Rel K1) := by
  obtain ⟨⟨f1, f2, f3, f4, f5, f6⟩, ⟨a1, a2, a3, a4, a5⟩, hW, -⟩ := id h
  obtain ⟨e1, e2⟩ := hc
  rw [e1]
  refine fC.mono (t_X7_taken hw hk hW) (fun b M1 _ q => ⟨?_, by rw [q.1]; exact h⟩)
  rw [f1] at e2
  exact (takenP_cg a1 a2 e2 q.2).symm
/-! the search: the same notes -/
section Sr
variable {n s q wp : Int} {K N P K' N' P' : Int → Int} {pr pr' : Int → Int → Int → Int → Int}
theorem stS_cg (hP : eqn n P' P) : stS n s P' = stS n s P := by
  unfold stS
  refine Prod.ext (funext fun w => ?_) rfl
  show (if (0 ≤ w ∧ w < n) ∧ bitZ s w = 1 then P' w else 0) = if (0 ≤ w ∧ w < n) ∧ bitZ s w = 1 then P w else 0
  by_cases h : 0 ≤ w ∧ w < n
  · rw [hP w h.1 h.2]
  · rw [if_neg (fun z => h z.1), if_neg (fun z => h z.1)]
theorem SC_cg (h4 : n ≤ 4) (hK : eqn n K' K) (hN : eqn n N' N) (hP : eqn n P' P) (hp : ∀ w, 0 ≤ w → w < n → pr' w = pr w) (m : sN) : SC n s P' (vZ K' N' q) pr' m ↔ SC n s P (vZ K N q) pr m := by
  have hv : ∀ w l, 0 ≤ w → w < n → vZ K' N' q w l = vZ K N q w l := fun w l a b => by unfold vZ; rw [hK w a b, hN w a b]
  unfold SC
  rw [stS_cg hP]
  exact emT_cg h4 (fun w a b => ⟨by unfold uZ; rw [hv w 1 a b, hv w 2 a b], uZ_rg.2⟩) hp (fun _ _ _ => rfl) (fun w l a b _ _ => hv w l a b) stS_sup
theorem TD_cg (h4 : n ≤ 4) (hK : eqn n K' K) (hN : eqn n N' N) (hP : eqn n P' P) : TD n s P' K' N' q = TD n s P K N q := by
  funext y
  unfold TD
  apply propext
  exact ⟨fun ⟨m, a, b⟩ => ⟨m, (SC_cg h4 hK hN hP (fun _ _ _ => rfl) m).mp a, b⟩, fun ⟨m, a, b⟩ => ⟨m, (SC_cg h4 hK hN hP (fun _ _ _ => rfl) m).mpr a, b⟩⟩
theorem suN_cg (h4 : n ≤ 4) (hK : eqn n K' K) (hN : eqn n N' N) (hP : eqn n P' P) : ∀ k : Nat, suN n s P' K' N' k = suN n s P K N k
  | 0 => rfl
  | k + 1 => by
    show andJ (suN n s P' K' N' k) (sbT (TD n s P' K' N' k)) = andJ (suN n s P K N k) (sbT (TD n s P K N k))
    rw [suN_cg h4 hK hN hP k, TD_cg h4 hK hN hP]
/-- no note lies farther than 396 -/
def bq (s : sS) : Prop := ∀ w, 0 ≤ w → w < 4 → 0 ≤ sp s w ∧ sp s w ≤ 99
theorem tm_99 {v : Int → Int → Int} {s : sS} (h : bq s) : tmZ v s ≤ 99 :=
  (itZ_inv (f := tmF v s) (a := 0) (fun _ x => x ≤ 99) (by decide) (n := 4) (fun k x k0 k1 hx => by
    unfold tmF
    by_cases h1 : 0 < spd v s k
    · rw [if_pos h1]
      have h2 := h k k0 k1
      have := lastZ_rg (P := sp s k) (F := spd v s k) h2.1 (by omega)
      split <;> omega
    · rw [if_neg h1]; exact hx) 4 (by omega) (Int.le_refl 4))
theorem bq.burn {v : Int → Int → Int} (hv : ∀ w l, 0 ≤ v w l) {s : sS} (h : bq s) {t : Int} (ht : 0 ≤ t) : bq (sB v t s) := fun w a b => by
  have h2 := h w a b
  have hs : 0 ≤ spd v s w := by unfold spd; split; omega; exact hv _ _
  have hm := Int.mul_nonneg hs ht
  show 0 ≤ (if 0 < leftZ v s t w then leftZ v s t w else 0) ∧ (if 0 < leftZ v s t w then leftZ v s t w else 0) ≤ 99
  unfold leftZ
  split <;> omega
theorem bq.drop {v : Int → Int → Int} (hv : ∀ w l, 0 ≤ v w l) {s : sS} (h : bq s) (ht : 0 < tmZ v s) : cnS (sp (sB v (tmZ v s) s)) + 1 ≤ cnS (sp s) := by
  obtain ⟨w, a, b, f1, f2⟩ := tm_arg ht
  have hp := lastZ_out (h w a b).1 f1 (by omega)
  refine cnS_drop (fun x x0 x1 hx => ?_) a b hp.1 ?_
  · have hx : 0 < (if 0 < leftZ v s (tmZ v s) x then leftZ v s (tmZ v s) x else 0) := hx
    by_cases hq : 0 < leftZ v s (tmZ v s) x
    · have hs : 0 ≤ spd v s x := by unfold spd; split; omega; exact hv _ _
      have hm := Int.mul_nonneg hs (show 0 ≤ tmZ v s by omega)
      unfold leftZ at hq
      omega
    · rw [if_neg hq] at hx; omega
  · show ¬ 0 < (if 0 < leftZ v s (tmZ v s) w then leftZ v s (tmZ v s) w else 0)
    rw [if_neg (by unfold leftZ; rw [f2]; have := hp.2; omega)]; omega
theorem emW_sp {mx : Int → Int} {un : Int → Int} {b : sS → sN → Prop} (hb : ∀ s m, bq s → b s m → m.1 ≤ st s + 99 * cnS (sp s)) : ∀ (k : Nat) (s : sS) (m : sN), bq s → emW mx pr un b k s m → m.1 ≤ st s + 99 * cnS (sp s)
  | 0, s, m, hs, h => hb s m hs h
  | k + 1, s, m, hs, h => by
    rcases h with ⟨_, e, _, _, h⟩ | ⟨_, h⟩
    · exact emW_sp hb k (sL pr un (3 - k) e s) m hs h
    · exact emW_sp hb k s m hs h
theorem emB_sp {v : Int → Int → Int} (hv : ∀ w l, 0 ≤ v w l) {b : sS → sN → Prop} (hb : ∀ s m, bq s → b s m → m.1 ≤ st s + 99 * cnS (sp s)) (s : sS) (m : sN) (hs : bq s) (h : emB v b s m) : m.1 ≤ st s + 99 * cnS (sp s) := by
  obtain ⟨h0, h⟩ := h
  have ht := tm_99 (v := v) hs
  have hd := hs.drop hv h0
  have hc : 0 ≤ cnS (sp (sB v (tmZ v s) s)) := by
    have c0 := cn1_rg (sp (sB v (tmZ v s) s) 0)
    have c1 := cn1_rg (sp (sB v (tmZ v s) s) 1)
    have c2 := cn1_rg (sp (sB v (tmZ v s) s) 2)
    have c3 := cn1_rg (sp (sB v (tmZ v s) s) 3)
    unfold cnS
    omega
  rcases h with e | h
  · subst e
    show st s + tmZ v s ≤ _
    omega
  · have h2 := hb _ m (hs.burn hv (by omega)) h
    have h2 : m.1 ≤ st s + tmZ v s + 99 * cnS (sp (sB v (tmZ v s) s)) := h2
    omega
theorem emD_sp {mx : Int → Int} {v : Int → Int → Int} (hv : ∀ w l, 0 ≤ v w l) : ∀ (d : Nat) (s : sS) (m : sN), bq s → emD mx pr v d s m → m.1 ≤ st s + 99 * cnS (sp s)
  | 0, _, _, _, h => h.elim
  | d + 1, s, m, hs, h => emW_sp (fun s m a b => emB_sp hv (emD_sp hv d) s m a b) 4 s m hs h
theorem vZ_0 {w l : Int} : 0 ≤ vZ K N q w l := by
  unfold vZ fastZ
  split <;> omega
theorem SC_396 {v : Int → Int → Int} (hv : ∀ w l, 0 ≤ v w l) (hP : ∀ w, 0 ≤ w → w < n → 0 ≤ P w ∧ P w ≤ 99) {m : sN} (h : SC n s P v pr m) : m.1 ≤ 396 := by
  have hs : bq (stS n s P) := fun w a b => by
    show 0 ≤ (if (0 ≤ w ∧ w < n) ∧ bitZ s w = 1 then P w else 0) ∧ (if (0 ≤ w ∧ w < n) ∧ bitZ s w = 1 then P w else 0) ≤ 99
    split
    · next z => exact hP w z.1.1 z.1.2
    · omega
  have := emW_sp (fun s m a b => emB_sp hv (emD_sp hv 4) s m a b) 4 (stS n s P) m hs h
  have c0 := cn1_rg (sp (stS n s P) 0)
  have c1 := cn1_rg (sp (stS n s P) 1)
  have c2 := cn1_rg (sp (stS n s P) 2)
  have c3 := cn1_rg (sp (stS n s P) 3)
  unfold cnS at this
  have e : st (stS n s P) = 0 := rfl
  rw [e] at this
  omega
end Sr
