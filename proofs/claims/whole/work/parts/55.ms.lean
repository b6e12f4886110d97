/-! the model's reader stands for a reading -/
def mSc (B : Int → Int) (n : Int) (e : pE) (M : fM) : Prop := match e with
  | .ok x => M 59 28 = 0 ∧ (0 ≤ pat x ∧ pat x ≤ n ∧ ptk x ≠ 259) ∧ M 59 25 = pat x ∧ tkM B (pat x) (ptk x) (pvl x) M ∧ (ptk x ≠ 258 → M 59 23 = pnx x)
  | .error p => (0 ≤ p ∧ p ≤ n) ∧ ((M 59 28 = 1 ∧ M 59 29 = p) ∨ (M 59 28 = 0 ∧ M 59 25 = p ∧ ∃ vl, tkM B p 259 vl M))
def mS (B : Int → Int) (n t o : Int) (e : pE) (M : fM) : Prop := (mB B n t M ∧ (M 59 27 = o ∧ 0 ≤ o ∧ o ≤ 5) ∧ (0 ≤ M 59 23 ∧ M 59 23 ≤ n) ∧ (0 ≤ M 59 25 ∧ M 59 25 ≤ n)) ∧ mSc B n e M
def mF (M K : fM) : Prop := (∀ c, c ≠ 59 → K c = M c) ∧ ∀ k, (k < 23 ∨ 29 < k) → K 59 k = M 59 k
theorem mF.refl {M : fM} : mF M M := ⟨fun _ _ => rfl, fun _ _ => rfl⟩
theorem mF.trans {M N K : fM} (h : mF M N) (h2 : mF N K) : mF M K := ⟨fun c a => by rw [h2.1 c a, h.1 c a], fun k a => by rw [h2.2 k a, h.2 k a]⟩
theorem nxF.mF {M K : fM} (h : nxF M K) : mF M K := ⟨h.1, fun k a => h.2 k (by omega) (by omega) (by omega) (by omega)⟩
def nmM (M : fM) : Int → Int := nmf (M 59 15) (M 59 16) (M 59 17) (M 59 18) (M 59 19) (M 59 20)
theorem nmM_eq {M K : fM} (h : mF M K) : nmM K = nmM M := by
  unfold nmM
  rw [h.2 15 (by omega), h.2 16 (by omega), h.2 17 (by omega), h.2 18 (by omega), h.2 19 (by omega), h.2 20 (by omega)]
theorem mB.mF {B : Int → Int} {n t : Int} {M N : fM} (h : mB B n t M) (hn : mF M N) : mB B n t N := by
  obtain ⟨h1, h2, h3, h4⟩ := h
  exact ⟨by rw [hn.2 21 (by omega)]; exact h1, by rw [hn.2 22 (by omega)]; exact h2, by rw [hn.1 60 (by decide)]; exact h3, h4⟩
theorem tkM.same {B : Int → Int} {a tk vl : Int} {M N : fM} (h : tkM B a tk vl M) (h1 : N 59 23 = M 59 23) (h2 : N 59 24 = M 59 24) (h3 : N 59 26 = M 59 26) : tkM B a tk vl N := by
  unfold tkM at *
  rw [h1, h2, h3]
  exact h
section MS
variable {X : fX} {B : Int → Int} {n t o : Int} {e : pE} {M K : fM} {d : Nat} {x : pT}
theorem mS.next (h : mS B n t o (.ok x) M) (hk : ptk x ≠ 258) (ha : nxP B n M K) : mS B n t o (adv B n x) K ∧ mF M K := by
  obtain ⟨⟨s1, s2, s3, s4⟩, c1, c2, c3, c4, c5⟩ := h
  obtain ⟨a1, a2, a3, a4, a5⟩ := ha
  have c5 := c5 hk
  rw [c5] at a3 a4 a5 s3
  have hlex := lex_wf (B := B) (n := n) (i := pnx x) s3.2
  refine ⟨⟨⟨s1.nx a1, by rw [a1.2 27 (by decide) (by decide) (by decide) (by decide)]; exact s2, a2, by rw [a3]; omega⟩, ?_⟩, a1.mF⟩
  unfold adv
  by_cases hb : (lex B n (pnx x)).2.2.1 = 259
  · rw [if_pos hb]
    rw [hb] at a4
    exact ⟨⟨by omega, by omega⟩, Or.inr ⟨by rw [a1.2 28 (by decide) (by decide) (by decide) (by decide)]; exact c1, a3, _, a4⟩⟩
  · rw [if_neg hb]
    exact ⟨by rw [a1.2 28 (by decide) (by decide) (by decide) (by decide)]; exact c1, ⟨by show 0 ≤ (lex B n (pnx x)).1; omega, hlex.1.2, hb⟩, a3, a4, fun q => a5 q hb⟩
theorem c_next (h : mS B n t o (.ok x) M) (hk : ptk x ≠ 258) : fC X (d + 1) mX7_next [.ref (xa X 59)] M (QV fun K => mS B n t o (adv B n x) K ∧ mF M K) := fC.monoV (t_X7_next h.1.1 h.1.2.2.1) (fun K hK => h.next hk hK)
theorem mS.fail (h : mS B n t o e M) (ha : (M 59 28 = 0 ∧ K = up (up M 59 28 1) 59 29 (M 59 25)) ∨ (M 59 28 ≠ 0 ∧ K = M)) : mS B n t o (eb e fun x => .error (pat x)) K ∧ mF M K ∧ K 59 28 ≠ 0 := by
  obtain ⟨⟨s1, s2, s3, s4⟩, hc⟩ := h
  have f1 : mF M (up (up M 59 28 1) 59 29 (M 59 25)) := ⟨fun c hc => by rw [up_ne hc, up_ne hc], fun k hk => by rw [up_app, if_neg (by omega), up_app, if_neg (by omega)]⟩
  cases e with
  | error p =>
    obtain ⟨c1, c2⟩ := hc
    rcases ha with ⟨q, rfl⟩ | ⟨q, rfl⟩
    · refine ⟨⟨⟨s1.mF f1, s2, s3, s4⟩, ⟨c1, Or.inl ⟨rfl, ?_⟩⟩⟩, f1, by show (1 : Int) ≠ 0; decide⟩
      rcases c2 with z | z
      · exact absurd (q.symm.trans z.1) (by decide)
      · exact z.2.1
    · refine ⟨⟨⟨s1, s2, s3, s4⟩, ⟨c1, c2⟩⟩, mF.refl, q⟩
  | ok x =>
    obtain ⟨c1, c2, c3, c4, c5⟩ := hc
    rcases ha with ⟨q, rfl⟩ | ⟨q, rfl⟩
    · exact ⟨⟨⟨s1.mF f1, s2, s3, s4⟩, ⟨⟨c2.1, c2.2.1⟩, Or.inl ⟨rfl, c3⟩⟩⟩, f1, by show (1 : Int) ≠ 0; decide⟩
    · exact absurd c1 q
theorem c_mfail (h : mS B n t o e M) : fC X d mX7_fail [.ref (xa X 59)] M (QV fun K => mS B n t o (eb e fun x => .error (pat x)) K ∧ mF M K ∧ K 59 28 ≠ 0) := fC.monoV t_X7_fail (fun K hK => h.fail hK)
theorem mS.emt {E : pE} {c : Int} {w : pT → pV} (h : mS B n t o E M) : mS B n t o (eb E fun z => .ok (emt c (w z) z)) M := by
  cases E with
  | error p => exact h
  | ok z => exact h
theorem mS.opn (h : mS B n t o e M) {o' : Int} (ho : 0 ≤ o' ∧ o' ≤ 5) : mS B n t o' e (up M 59 27 o') ∧ mF M (up M 59 27 o') := by
  obtain ⟨⟨s1, s2, s3, s4⟩, hc⟩ := h
  have f1 : mF M (up M 59 27 o') := ⟨fun c hc => up_ne hc, fun k hk => by rw [up_app, if_neg (by omega)]⟩
  refine ⟨⟨⟨s1.mF f1, ⟨rfl, ho⟩, s3, s4⟩, ?_⟩, f1⟩
  cases e with
  | error p => exact hc
  | ok x => exact hc
/-- a sign that is met -/
theorem mS.sg (h : mS B n t o e M) {s : Int} (hs : bSg s) : (M 59 28 = 0 ∧ M 59 24 = 3 ∧ M 59 26 = s) ↔ ∃ x, e = .ok x ∧ ptk x = s := by
  obtain ⟨_, hc⟩ := h
  have hsr : 40 ≤ s ∧ s ≤ 61 := by omega
  cases e with
  | error p =>
    obtain ⟨c1, c2⟩ := hc
    constructor
    · rintro ⟨a, b, c⟩
      exfalso
      rcases c2 with z | ⟨z1, z2, vl, z⟩
      · omega
      · rcases z with y | y | y | y | y
        · omega
        · omega
        · omega
        · have := y.1; omega
        · omega
    · rintro ⟨x, hx, _⟩; cases hx
  | ok x =>
    obtain ⟨c1, c2, c3, c4, c5⟩ := hc
    constructor
    · rintro ⟨a, b, c⟩
      refine ⟨x, rfl, ?_⟩
      rcases c4 with y | y | y | y | y
      · omega
      · omega
      · omega
      · omega
      · omega
    · rintro ⟨x', hx, hk⟩
      cases hx
      rcases c4 with y | y | y | y | y
      · omega
      · omega
      · exfalso
        have := wcl_rg (B := B) (a := pat x) (x := M 59 23)
        rw [y.2.1] at this
        have h2 : (ptk x = 257 ∧ 0 ≤ pvl x ∧ pvl x ≤ 5) ∨ (259 ≤ ptk x ∧ ptk x ≤ 265 ∧ pvl x = -1) := this
        omega
      · exact ⟨c1, y.2.1, by omega⟩
      · omega
theorem Lq_in {a x i l : Int} (hl : l ≠ 0) : Lq B a x i l ↔ a + i < x ∧ B (a + i) = l := by
  unfold Lq
  constructor
  · rintro (h | h)
    · exact h
    · exact absurd h.2 hl
  · exact Or.inl
theorem Lq_out {a x i : Int} (hx : a + i < x → B (a + i) ≠ 0) : Lq B a x i 0 ↔ ¬ a + i < x := by
  unfold Lq
  constructor
  · rintro (h | h)
    · exact absurd h.2 (hx h.1)
    · exact h.1
  · exact fun h => Or.inr ⟨h, rfl⟩
theorem mS.wd (h : mS B n t o e M) {c v : Int} (hc9 : c ≠ 259 ∧ 257 ≤ c ∧ c ≠ 258) {P W : Prop} (hP : M 59 24 = 1 → M 59 25 < M 59 23 → (∀ j, M 59 25 ≤ j → j < M 59 23 → bLt (B j)) → (P ↔ W)) (hW : W ↔ wcl B (M 59 25) (M 59 23) = (c, v)) : (M 59 28 = 0 ∧ M 59 24 = 1 ∧ P) ↔ ∃ x, e = .ok x ∧ ptk x = c ∧ pvl x = v := by
  obtain ⟨_, hc⟩ := h
  cases e with
  | error p =>
    obtain ⟨c1, c2⟩ := hc
    constructor
    · rintro ⟨a, b, q⟩
      exfalso
      rcases c2 with z | ⟨z1, z2, vl, z⟩
      · omega
      · rcases z with y | y | y | y | y
        · omega
        · omega
        · have g := hW.mp ((hP y.1 (by rw [z2]; exact y.2.2.1) (by rw [z2]; exact y.2.2.2)).mp q)
          rw [z2, y.2.1] at g
          exact hc9.1 (Prod.mk.inj g).1.symm
        · omega
        · omega
    · rintro ⟨x, hx, _⟩; cases hx
  | ok x =>
    obtain ⟨c1, c2, c3, c4, c5⟩ := hc
    constructor
    · rintro ⟨a, b, q⟩
      rcases c4 with y | y | y | y | y
      · omega
      · omega
      · have g := hW.mp ((hP y.1 (by rw [c3]; exact y.2.2.1) (by rw [c3]; exact y.2.2.2)).mp q)
        rw [c3, y.2.1] at g
        exact ⟨x, rfl, (Prod.mk.inj g).1, (Prod.mk.inj g).2⟩
      · omega
      · omega
    · rintro ⟨x', hx, hk, hv⟩
      cases hx
      rcases c4 with y | y | y | y | y
      · exfalso; have := y.1; omega
      · exfalso; have := y.1; omega
      · exact ⟨c1, y.1, (hP y.1 (by rw [c3]; exact y.2.2.1) (by rw [c3]; exact y.2.2.2)).mpr (hW.mpr (by rw [c3, y.2.1, hk, hv]))⟩
      · exfalso; have := y.1; omega
      · exfalso; have := y.1; omega
theorem mS.num (h : mS B n t o e M) (h8 : M 59 28 = 0) (h4 : M 59 24 = 2) : ∃ x, e = .ok x ∧ ptk x = 256 ∧ M 59 26 = pvl x := by
  obtain ⟨_, hc⟩ := h
  cases e with
  | error p =>
    obtain ⟨c1, c2⟩ := hc
    exfalso
    rcases c2 with z | ⟨z1, z2, vl, z⟩
    · omega
    · rcases z with y | y | y | y | y <;> omega
  | ok x =>
    obtain ⟨c1, c2, c3, c4, c5⟩ := hc
    rcases c4 with y | y | y | y | y
    · omega
    · exact ⟨x, rfl, y.1, y.2.2⟩
    · omega
    · omega
    · omega
/-- what is neither number nor word nor sign -/
theorem mS.tok (h : mS B n t o (.ok x) M) : (ptk x = 256 → M 59 24 = 2) ∧ (257 ≤ ptk x → ptk x ≠ 258 → M 59 24 = 1) ∧ (M 59 24 = 0 ↔ ptk x = 258) ∧ M 59 28 = 0 := by
  obtain ⟨_, c1, c2, c3, c4, c5⟩ := h
  rcases c4 with y | y | y | y | y
  · exact ⟨fun _ => by omega, fun _ _ => by omega, by omega, c1⟩
  · exact ⟨fun _ => by omega, fun _ _ => by omega, by omega, c1⟩
  · have := wcl_rg (B := B) (a := pat x) (x := M 59 23)
    rw [y.2.1] at this
    have h2 : (ptk x = 257 ∧ 0 ≤ pvl x ∧ pvl x ≤ 5) ∨ (259 ≤ ptk x ∧ ptk x ≤ 265 ∧ pvl x = -1) := this
    have := y.1
    exact ⟨fun _ => by omega, fun _ _ => by omega, by omega, c1⟩
  · have := y.1
    have := y.2.1
    exact ⟨fun _ => by omega, fun _ _ => by omega, by omega, c1⟩
  · exact absurd y.1 c2.2.2
end MS
set_option maxRecDepth 20000 in
set_option maxHeartbeats 4000000 in
theorem t_X7_isSign {X : fX} {B : Int → Int} {n t o : Int} {e : pE} {M : fM} {d : Nat} {s : Int} (hs : bSg s) (h : mS B n t o e M) : fC X d mX7_isSign [.ref (xa X 59), .int (iv s)] M (QI fun r M' => M' = M ∧ bz r (∃ x, e = .ok x ∧ ptk x = s)) := by
  refine fC.of (L := [_, _]) (by decide +kernel) rfl (Nat.le_of_ble_eq_true rfl) (fun Z hZ hR => ?_)
  refine f_aload_n hZ dX7_isSign_0 rfl ?_
  refine gX7_187 hZ dX7_isSign_1 (fun r1 => ?_)
  refine f_ne (tgt := 29) hZ dX7_isSign_4 rfl (by first | omega | exact ⟨by omega, by omega⟩) (fun h4 => ?_) (fun h4 => ?_)
  · refine f_iconst hZ dX7_isSign_29 ?_
    exact f_retZ hZ hR dX7_isSign_30 rfl (by first | omega | exact ⟨by omega, by omega⟩) (by refine ⟨rfl, ?_⟩; unfold bz; rw [← h.sg hs]; first | exact Or.inl ⟨rfl, by omega, by omega, by omega⟩ | exact Or.inr ⟨rfl, fun z => by omega⟩)
  · refine f_aload_n hZ dX7_isSign_7 rfl ?_
    refine gX7_170 hZ dX7_isSign_8 (fun r8 => ?_)
    refine f_iconst hZ dX7_isSign_11 ?_
    refine f_ine (tgt := 29) hZ dX7_isSign_12 rfl (by first | omega | exact ⟨by omega, by omega⟩) (by first | omega | exact ⟨by omega, by omega⟩) (fun h12 => ?_) (fun h12 => ?_)
    · refine f_iconst hZ dX7_isSign_29 ?_
      exact f_retZ hZ hR dX7_isSign_30 rfl (by first | omega | exact ⟨by omega, by omega⟩) (by refine ⟨rfl, ?_⟩; unfold bz; rw [← h.sg hs]; first | exact Or.inl ⟨rfl, by omega, by omega, by omega⟩ | exact Or.inr ⟨rfl, fun z => by omega⟩)
    · refine f_aload_n hZ dX7_isSign_15 rfl ?_
      refine gX7_181 hZ dX7_isSign_16 (fun r16 => ?_)
      refine f_iload_n hZ dX7_isSign_19 rfl ?_
      refine f_i2l hZ dX7_isSign_20 (by first | omega | exact ⟨by omega, by omega⟩) ?_
      refine f_lcmp hZ dX7_isSign_21 (by first | omega | exact ⟨by omega, by omega⟩) (by first | omega | exact ⟨by omega, by omega⟩) ?_
      refine f_ne (tgt := 29) hZ dX7_isSign_22 rfl (rg_cmpJ _ _) (fun h22 => ?_) (fun h22 => ?_)
      · simp only [cmpJ_lt, cmpJ_gt, cmpJ_eq, cmpJ_ge, cmpJ_le] at h22
        refine f_iconst hZ dX7_isSign_29 ?_
        exact f_retZ hZ hR dX7_isSign_30 rfl (by first | omega | exact ⟨by omega, by omega⟩) (by refine ⟨rfl, ?_⟩; unfold bz; rw [← h.sg hs]; first | exact Or.inl ⟨rfl, by omega, by omega, by omega⟩ | exact Or.inr ⟨rfl, fun z => by omega⟩)
      · simp only [cmpJ_lt, cmpJ_gt, cmpJ_eq, cmpJ_ge, cmpJ_le] at h22
        refine f_iconst hZ dX7_isSign_25 ?_
        refine f_goto (tgt := 30) hZ dX7_isSign_26 rfl ?_
        exact f_retZ hZ hR dX7_isSign_30 rfl (by first | omega | exact ⟨by omega, by omega⟩) (by refine ⟨rfl, ?_⟩; unfold bz; rw [← h.sg hs]; first | exact Or.inl ⟨rfl, by omega, by omega, by omega⟩ | exact Or.inr ⟨rfl, fun z => by omega⟩)

theorem lq_0 {B : Int → Int} {a x : Int} (hlt : a < x) (hl : ∀ j, a ≤ j → j < x → bLt (B j)) : (x ≤ a + 8 ∧ Lq B a x 0 112 ∧ Lq B a x 1 97 ∧ Lq B a x 2 114 ∧ Lq B a x 3 116 ∧ Lq B a x 4 115 ∧ Lq B a x 5 0 ∧ Lq B a x 6 0 ∧ Lq B a x 7 0) ↔ wq0 B a x := by
  have ho : ∀ i : Int, 0 ≤ i → a + i < x → B (a + i) ≠ 0 := fun i h0 h1 => by have := hl (a + i) (by omega) h1; omega
  rw [Lq_in (i := 0) (by decide), Lq_in (i := 1) (by decide), Lq_in (i := 2) (by decide), Lq_in (i := 3) (by decide), Lq_in (i := 4) (by decide), Lq_out (ho 5 (by decide)), Lq_out (ho 6 (by decide)), Lq_out (ho 7 (by decide))]
  constructor
  · rintro ⟨z, z0, z1, z2, z3, z4, z5, z6, z7⟩
    exact ⟨by omega, z0.2, z1.2, z2.2, z3.2, z4.2⟩
  · rintro ⟨z, z0, z1, z2, z3, z4⟩
    exact ⟨by omega, ⟨by omega, z0⟩, ⟨by omega, z1⟩, ⟨by omega, z2⟩, ⟨by omega, z3⟩, ⟨by omega, z4⟩, by omega, by omega, by omega⟩
theorem t_w0 {X : fX} {B : Int → Int} {n t o : Int} {e : pE} {M : fM} {d : Nat} (h : mS B n t o e M) : fC X (d + 2) mX7_isWord [.ref (xa X 59), .int (iv 112), .int (iv 97), .int (iv 114), .int (iv 116), .int (iv 115), .int (iv 0), .int (iv 0), .int (iv 0)] M (QI fun r M' => M' = M ∧ bz r (∃ x, e = .ok x ∧ ptk x = 257 ∧ pvl x = 0)) := by
  have h2 := h.1.1.2.1.2
  refine fC.mono (t_X7_isWord h.1.1 ⟨h.1.2.2.2.1, by have := h.1.2.2.2.2; omega⟩ h.1.2.2.1.2 (by omega) (by omega) (by omega) (by omega) (by omega) (by omega) (by omega) (by omega)) (fun r M' _ hq => ⟨hq.1, ?_⟩)
  have hw := h.wd (c := 257) (v := 0) (by decide) (P := M 59 23 ≤ M 59 25 + 8 ∧ Lq B (M 59 25) (M 59 23) 0 112 ∧ Lq B (M 59 25) (M 59 23) 1 97 ∧ Lq B (M 59 25) (M 59 23) 2 114 ∧ Lq B (M 59 25) (M 59 23) 3 116 ∧ Lq B (M 59 25) (M 59 23) 4 115 ∧ Lq B (M 59 25) (M 59 23) 5 0 ∧ Lq B (M 59 25) (M 59 23) 6 0 ∧ Lq B (M 59 25) (M 59 23) 7 0) (W := wq0 B (M 59 25) (M 59 23)) (fun _ g1 g2 => lq_0 g1 g2) wcl_0
  exact hq.2.imp (fun z => ⟨z.1, hw.mp z.2⟩) (fun z => ⟨z.1, fun y => z.2 (hw.mpr y)⟩)
theorem lq_1 {B : Int → Int} {a x : Int} (hlt : a < x) (hl : ∀ j, a ≤ j → j < x → bLt (B j)) : (x ≤ a + 8 ∧ Lq B a x 0 100 ∧ Lq B a x 1 97 ∧ Lq B a x 2 109 ∧ Lq B a x 3 112 ∧ Lq B a x 4 0 ∧ Lq B a x 5 0 ∧ Lq B a x 6 0 ∧ Lq B a x 7 0) ↔ wq1 B a x := by
  have ho : ∀ i : Int, 0 ≤ i → a + i < x → B (a + i) ≠ 0 := fun i h0 h1 => by have := hl (a + i) (by omega) h1; omega
  rw [Lq_in (i := 0) (by decide), Lq_in (i := 1) (by decide), Lq_in (i := 2) (by decide), Lq_in (i := 3) (by decide), Lq_out (ho 4 (by decide)), Lq_out (ho 5 (by decide)), Lq_out (ho 6 (by decide)), Lq_out (ho 7 (by decide))]
  constructor
  · rintro ⟨z, z0, z1, z2, z3, z4, z5, z6, z7⟩
    exact ⟨by omega, z0.2, z1.2, z2.2, z3.2⟩
  · rintro ⟨z, z0, z1, z2, z3⟩
    exact ⟨by omega, ⟨by omega, z0⟩, ⟨by omega, z1⟩, ⟨by omega, z2⟩, ⟨by omega, z3⟩, by omega, by omega, by omega, by omega⟩
theorem t_w1 {X : fX} {B : Int → Int} {n t o : Int} {e : pE} {M : fM} {d : Nat} (h : mS B n t o e M) : fC X (d + 2) mX7_isWord [.ref (xa X 59), .int (iv 100), .int (iv 97), .int (iv 109), .int (iv 112), .int (iv 0), .int (iv 0), .int (iv 0), .int (iv 0)] M (QI fun r M' => M' = M ∧ bz r (∃ x, e = .ok x ∧ ptk x = 257 ∧ pvl x = 1)) := by
  have h2 := h.1.1.2.1.2
  refine fC.mono (t_X7_isWord h.1.1 ⟨h.1.2.2.2.1, by have := h.1.2.2.2.2; omega⟩ h.1.2.2.1.2 (by omega) (by omega) (by omega) (by omega) (by omega) (by omega) (by omega) (by omega)) (fun r M' _ hq => ⟨hq.1, ?_⟩)
  have hw := h.wd (c := 257) (v := 1) (by decide) (P := M 59 23 ≤ M 59 25 + 8 ∧ Lq B (M 59 25) (M 59 23) 0 100 ∧ Lq B (M 59 25) (M 59 23) 1 97 ∧ Lq B (M 59 25) (M 59 23) 2 109 ∧ Lq B (M 59 25) (M 59 23) 3 112 ∧ Lq B (M 59 25) (M 59 23) 4 0 ∧ Lq B (M 59 25) (M 59 23) 5 0 ∧ Lq B (M 59 25) (M 59 23) 6 0 ∧ Lq B (M 59 25) (M 59 23) 7 0) (W := wq1 B (M 59 25) (M 59 23)) (fun _ g1 g2 => lq_1 g1 g2) wcl_1
  exact hq.2.imp (fun z => ⟨z.1, hw.mp z.2⟩) (fun z => ⟨z.1, fun y => z.2 (hw.mpr y)⟩)
theorem lq_2 {B : Int → Int} {a x : Int} (hlt : a < x) (hl : ∀ j, a ≤ j → j < x → bLt (B j)) : (x ≤ a + 8 ∧ Lq B a x 0 108 ∧ Lq B a x 1 105 ∧ Lq B a x 2 116 ∧ Lq B a x 3 0 ∧ Lq B a x 4 0 ∧ Lq B a x 5 0 ∧ Lq B a x 6 0 ∧ Lq B a x 7 0) ↔ wq2 B a x := by
  have ho : ∀ i : Int, 0 ≤ i → a + i < x → B (a + i) ≠ 0 := fun i h0 h1 => by have := hl (a + i) (by omega) h1; omega
  rw [Lq_in (i := 0) (by decide), Lq_in (i := 1) (by decide), Lq_in (i := 2) (by decide), Lq_out (ho 3 (by decide)), Lq_out (ho 4 (by decide)), Lq_out (ho 5 (by decide)), Lq_out (ho 6 (by decide)), Lq_out (ho 7 (by decide))]
  constructor
  · rintro ⟨z, z0, z1, z2, z3, z4, z5, z6, z7⟩
    exact ⟨by omega, z0.2, z1.2, z2.2⟩
  · rintro ⟨z, z0, z1, z2⟩
    exact ⟨by omega, ⟨by omega, z0⟩, ⟨by omega, z1⟩, ⟨by omega, z2⟩, by omega, by omega, by omega, by omega, by omega⟩
theorem t_w2 {X : fX} {B : Int → Int} {n t o : Int} {e : pE} {M : fM} {d : Nat} (h : mS B n t o e M) : fC X (d + 2) mX7_isWord [.ref (xa X 59), .int (iv 108), .int (iv 105), .int (iv 116), .int (iv 0), .int (iv 0), .int (iv 0), .int (iv 0), .int (iv 0)] M (QI fun r M' => M' = M ∧ bz r (∃ x, e = .ok x ∧ ptk x = 257 ∧ pvl x = 2)) := by
  have h2 := h.1.1.2.1.2
  refine fC.mono (t_X7_isWord h.1.1 ⟨h.1.2.2.2.1, by have := h.1.2.2.2.2; omega⟩ h.1.2.2.1.2 (by omega) (by omega) (by omega) (by omega) (by omega) (by omega) (by omega) (by omega)) (fun r M' _ hq => ⟨hq.1, ?_⟩)
  have hw := h.wd (c := 257) (v := 2) (by decide) (P := M 59 23 ≤ M 59 25 + 8 ∧ Lq B (M 59 25) (M 59 23) 0 108 ∧ Lq B (M 59 25) (M 59 23) 1 105 ∧ Lq B (M 59 25) (M 59 23) 2 116 ∧ Lq B (M 59 25) (M 59 23) 3 0 ∧ Lq B (M 59 25) (M 59 23) 4 0 ∧ Lq B (M 59 25) (M 59 23) 5 0 ∧ Lq B (M 59 25) (M 59 23) 6 0 ∧ Lq B (M 59 25) (M 59 23) 7 0) (W := wq2 B (M 59 25) (M 59 23)) (fun _ g1 g2 => lq_2 g1 g2) wcl_2
  exact hq.2.imp (fun z => ⟨z.1, hw.mp z.2⟩) (fun z => ⟨z.1, fun y => z.2 (hw.mpr y)⟩)
theorem lq_3 {B : Int → Int} {a x : Int} (hlt : a < x) (hl : ∀ j, a ≤ j → j < x → bLt (B j)) : (x ≤ a + 8 ∧ Lq B a x 0 98 ∧ Lq B a x 1 117 ∧ Lq B a x 2 114 ∧ Lq B a x 3 110 ∧ Lq B a x 4 116 ∧ Lq B a x 5 0 ∧ Lq B a x 6 0 ∧ Lq B a x 7 0) ↔ wq3 B a x := by
  have ho : ∀ i : Int, 0 ≤ i → a + i < x → B (a + i) ≠ 0 := fun i h0 h1 => by have := hl (a + i) (by omega) h1; omega
  rw [Lq_in (i := 0) (by decide), Lq_in (i := 1) (by decide), Lq_in (i := 2) (by decide), Lq_in (i := 3) (by decide), Lq_in (i := 4) (by decide), Lq_out (ho 5 (by decide)), Lq_out (ho 6 (by decide)), Lq_out (ho 7 (by decide))]
  constructor
  · rintro ⟨z, z0, z1, z2, z3, z4, z5, z6, z7⟩
    exact ⟨by omega, z0.2, z1.2, z2.2, z3.2, z4.2⟩
  · rintro ⟨z, z0, z1, z2, z3, z4⟩
    exact ⟨by omega, ⟨by omega, z0⟩, ⟨by omega, z1⟩, ⟨by omega, z2⟩, ⟨by omega, z3⟩, ⟨by omega, z4⟩, by omega, by omega, by omega⟩
theorem t_w3 {X : fX} {B : Int → Int} {n t o : Int} {e : pE} {M : fM} {d : Nat} (h : mS B n t o e M) : fC X (d + 2) mX7_isWord [.ref (xa X 59), .int (iv 98), .int (iv 117), .int (iv 114), .int (iv 110), .int (iv 116), .int (iv 0), .int (iv 0), .int (iv 0)] M (QI fun r M' => M' = M ∧ bz r (∃ x, e = .ok x ∧ ptk x = 257 ∧ pvl x = 3)) := by
  have h2 := h.1.1.2.1.2
  refine fC.mono (t_X7_isWord h.1.1 ⟨h.1.2.2.2.1, by have := h.1.2.2.2.2; omega⟩ h.1.2.2.1.2 (by omega) (by omega) (by omega) (by omega) (by omega) (by omega) (by omega) (by omega)) (fun r M' _ hq => ⟨hq.1, ?_⟩)
  have hw := h.wd (c := 257) (v := 3) (by decide) (P := M 59 23 ≤ M 59 25 + 8 ∧ Lq B (M 59 25) (M 59 23) 0 98 ∧ Lq B (M 59 25) (M 59 23) 1 117 ∧ Lq B (M 59 25) (M 59 23) 2 114 ∧ Lq B (M 59 25) (M 59 23) 3 110 ∧ Lq B (M 59 25) (M 59 23) 4 116 ∧ Lq B (M 59 25) (M 59 23) 5 0 ∧ Lq B (M 59 25) (M 59 23) 6 0 ∧ Lq B (M 59 25) (M 59 23) 7 0) (W := wq3 B (M 59 25) (M 59 23)) (fun _ g1 g2 => lq_3 g1 g2) wcl_3
  exact hq.2.imp (fun z => ⟨z.1, hw.mp z.2⟩) (fun z => ⟨z.1, fun y => z.2 (hw.mpr y)⟩)
theorem lq_4 {B : Int → Int} {a x : Int} (hlt : a < x) (hl : ∀ j, a ≤ j → j < x → bLt (B j)) : (x ≤ a + 8 ∧ Lq B a x 0 119 ∧ Lq B a x 1 105 ∧ Lq B a x 2 99 ∧ Lq B a x 3 107 ∧ Lq B a x 4 0 ∧ Lq B a x 5 0 ∧ Lq B a x 6 0 ∧ Lq B a x 7 0) ↔ wq4 B a x := by
  have ho : ∀ i : Int, 0 ≤ i → a + i < x → B (a + i) ≠ 0 := fun i h0 h1 => by have := hl (a + i) (by omega) h1; omega
  rw [Lq_in (i := 0) (by decide), Lq_in (i := 1) (by decide), Lq_in (i := 2) (by decide), Lq_in (i := 3) (by decide), Lq_out (ho 4 (by decide)), Lq_out (ho 5 (by decide)), Lq_out (ho 6 (by decide)), Lq_out (ho 7 (by decide))]
  constructor
  · rintro ⟨z, z0, z1, z2, z3, z4, z5, z6, z7⟩
    exact ⟨by omega, z0.2, z1.2, z2.2, z3.2⟩
  · rintro ⟨z, z0, z1, z2, z3⟩
    exact ⟨by omega, ⟨by omega, z0⟩, ⟨by omega, z1⟩, ⟨by omega, z2⟩, ⟨by omega, z3⟩, by omega, by omega, by omega, by omega⟩
theorem t_w4 {X : fX} {B : Int → Int} {n t o : Int} {e : pE} {M : fM} {d : Nat} (h : mS B n t o e M) : fC X (d + 2) mX7_isWord [.ref (xa X 59), .int (iv 119), .int (iv 105), .int (iv 99), .int (iv 107), .int (iv 0), .int (iv 0), .int (iv 0), .int (iv 0)] M (QI fun r M' => M' = M ∧ bz r (∃ x, e = .ok x ∧ ptk x = 257 ∧ pvl x = 4)) := by
  have h2 := h.1.1.2.1.2
  refine fC.mono (t_X7_isWord h.1.1 ⟨h.1.2.2.2.1, by have := h.1.2.2.2.2; omega⟩ h.1.2.2.1.2 (by omega) (by omega) (by omega) (by omega) (by omega) (by omega) (by omega) (by omega)) (fun r M' _ hq => ⟨hq.1, ?_⟩)
  have hw := h.wd (c := 257) (v := 4) (by decide) (P := M 59 23 ≤ M 59 25 + 8 ∧ Lq B (M 59 25) (M 59 23) 0 119 ∧ Lq B (M 59 25) (M 59 23) 1 105 ∧ Lq B (M 59 25) (M 59 23) 2 99 ∧ Lq B (M 59 25) (M 59 23) 3 107 ∧ Lq B (M 59 25) (M 59 23) 4 0 ∧ Lq B (M 59 25) (M 59 23) 5 0 ∧ Lq B (M 59 25) (M 59 23) 6 0 ∧ Lq B (M 59 25) (M 59 23) 7 0) (W := wq4 B (M 59 25) (M 59 23)) (fun _ g1 g2 => lq_4 g1 g2) wcl_4
  exact hq.2.imp (fun z => ⟨z.1, hw.mp z.2⟩) (fun z => ⟨z.1, fun y => z.2 (hw.mpr y)⟩)
theorem lq_5 {B : Int → Int} {a x : Int} (hlt : a < x) (hl : ∀ j, a ≤ j → j < x → bLt (B j)) : (x ≤ a + 8 ∧ Lq B a x 0 115 ∧ Lq B a x 1 112 ∧ Lq B a x 2 97 ∧ Lq B a x 3 110 ∧ Lq B a x 4 0 ∧ Lq B a x 5 0 ∧ Lq B a x 6 0 ∧ Lq B a x 7 0) ↔ wq5 B a x := by
  have ho : ∀ i : Int, 0 ≤ i → a + i < x → B (a + i) ≠ 0 := fun i h0 h1 => by have := hl (a + i) (by omega) h1; omega
  rw [Lq_in (i := 0) (by decide), Lq_in (i := 1) (by decide), Lq_in (i := 2) (by decide), Lq_in (i := 3) (by decide), Lq_out (ho 4 (by decide)), Lq_out (ho 5 (by decide)), Lq_out (ho 6 (by decide)), Lq_out (ho 7 (by decide))]
  constructor
  · rintro ⟨z, z0, z1, z2, z3, z4, z5, z6, z7⟩
    exact ⟨by omega, z0.2, z1.2, z2.2, z3.2⟩
  · rintro ⟨z, z0, z1, z2, z3⟩
    exact ⟨by omega, ⟨by omega, z0⟩, ⟨by omega, z1⟩, ⟨by omega, z2⟩, ⟨by omega, z3⟩, by omega, by omega, by omega, by omega⟩
theorem t_w5 {X : fX} {B : Int → Int} {n t o : Int} {e : pE} {M : fM} {d : Nat} (h : mS B n t o e M) : fC X (d + 2) mX7_isWord [.ref (xa X 59), .int (iv 115), .int (iv 112), .int (iv 97), .int (iv 110), .int (iv 0), .int (iv 0), .int (iv 0), .int (iv 0)] M (QI fun r M' => M' = M ∧ bz r (∃ x, e = .ok x ∧ ptk x = 257 ∧ pvl x = 5)) := by
  have h2 := h.1.1.2.1.2
  refine fC.mono (t_X7_isWord h.1.1 ⟨h.1.2.2.2.1, by have := h.1.2.2.2.2; omega⟩ h.1.2.2.1.2 (by omega) (by omega) (by omega) (by omega) (by omega) (by omega) (by omega) (by omega)) (fun r M' _ hq => ⟨hq.1, ?_⟩)
  have hw := h.wd (c := 257) (v := 5) (by decide) (P := M 59 23 ≤ M 59 25 + 8 ∧ Lq B (M 59 25) (M 59 23) 0 115 ∧ Lq B (M 59 25) (M 59 23) 1 112 ∧ Lq B (M 59 25) (M 59 23) 2 97 ∧ Lq B (M 59 25) (M 59 23) 3 110 ∧ Lq B (M 59 25) (M 59 23) 4 0 ∧ Lq B (M 59 25) (M 59 23) 5 0 ∧ Lq B (M 59 25) (M 59 23) 6 0 ∧ Lq B (M 59 25) (M 59 23) 7 0) (W := wq5 B (M 59 25) (M 59 23)) (fun _ g1 g2 => lq_5 g1 g2) wcl_5
  exact hq.2.imp (fun z => ⟨z.1, hw.mp z.2⟩) (fun z => ⟨z.1, fun y => z.2 (hw.mpr y)⟩)
theorem lq_6 {B : Int → Int} {a x : Int} (hlt : a < x) (hl : ∀ j, a ≤ j → j < x → bLt (B j)) : (x ≤ a + 8 ∧ Lq B a x 0 99 ∧ Lq B a x 1 111 ∧ Lq B a x 2 115 ∧ Lq B a x 3 116 ∧ Lq B a x 4 115 ∧ Lq B a x 5 0 ∧ Lq B a x 6 0 ∧ Lq B a x 7 0) ↔ wq6 B a x := by
  have ho : ∀ i : Int, 0 ≤ i → a + i < x → B (a + i) ≠ 0 := fun i h0 h1 => by have := hl (a + i) (by omega) h1; omega
  rw [Lq_in (i := 0) (by decide), Lq_in (i := 1) (by decide), Lq_in (i := 2) (by decide), Lq_in (i := 3) (by decide), Lq_in (i := 4) (by decide), Lq_out (ho 5 (by decide)), Lq_out (ho 6 (by decide)), Lq_out (ho 7 (by decide))]
  constructor
  · rintro ⟨z, z0, z1, z2, z3, z4, z5, z6, z7⟩
    exact ⟨by omega, z0.2, z1.2, z2.2, z3.2, z4.2⟩
  · rintro ⟨z, z0, z1, z2, z3, z4⟩
    exact ⟨by omega, ⟨by omega, z0⟩, ⟨by omega, z1⟩, ⟨by omega, z2⟩, ⟨by omega, z3⟩, ⟨by omega, z4⟩, by omega, by omega, by omega⟩
theorem t_w6 {X : fX} {B : Int → Int} {n t o : Int} {e : pE} {M : fM} {d : Nat} (h : mS B n t o e M) : fC X (d + 2) mX7_isWord [.ref (xa X 59), .int (iv 99), .int (iv 111), .int (iv 115), .int (iv 116), .int (iv 115), .int (iv 0), .int (iv 0), .int (iv 0)] M (QI fun r M' => M' = M ∧ bz r (∃ x, e = .ok x ∧ ptk x = 260 ∧ pvl x = -1)) := by
  have h2 := h.1.1.2.1.2
  refine fC.mono (t_X7_isWord h.1.1 ⟨h.1.2.2.2.1, by have := h.1.2.2.2.2; omega⟩ h.1.2.2.1.2 (by omega) (by omega) (by omega) (by omega) (by omega) (by omega) (by omega) (by omega)) (fun r M' _ hq => ⟨hq.1, ?_⟩)
  have hw := h.wd (c := 260) (v := -1) (by decide) (P := M 59 23 ≤ M 59 25 + 8 ∧ Lq B (M 59 25) (M 59 23) 0 99 ∧ Lq B (M 59 25) (M 59 23) 1 111 ∧ Lq B (M 59 25) (M 59 23) 2 115 ∧ Lq B (M 59 25) (M 59 23) 3 116 ∧ Lq B (M 59 25) (M 59 23) 4 115 ∧ Lq B (M 59 25) (M 59 23) 5 0 ∧ Lq B (M 59 25) (M 59 23) 6 0 ∧ Lq B (M 59 25) (M 59 23) 7 0) (W := wq6 B (M 59 25) (M 59 23)) (fun _ g1 g2 => lq_6 g1 g2) wcl_6
  exact hq.2.imp (fun z => ⟨z.1, hw.mp z.2⟩) (fun z => ⟨z.1, fun y => z.2 (hw.mpr y)⟩)
theorem lq_7 {B : Int → Int} {a x : Int} (hlt : a < x) (hl : ∀ j, a ≤ j → j < x → bLt (B j)) : (x ≤ a + 8 ∧ Lq B a x 0 119 ∧ Lq B a x 1 111 ∧ Lq B a x 2 114 ∧ Lq B a x 3 116 ∧ Lq B a x 4 104 ∧ Lq B a x 5 0 ∧ Lq B a x 6 0 ∧ Lq B a x 7 0) ↔ wq7 B a x := by
  have ho : ∀ i : Int, 0 ≤ i → a + i < x → B (a + i) ≠ 0 := fun i h0 h1 => by have := hl (a + i) (by omega) h1; omega
  rw [Lq_in (i := 0) (by decide), Lq_in (i := 1) (by decide), Lq_in (i := 2) (by decide), Lq_in (i := 3) (by decide), Lq_in (i := 4) (by decide), Lq_out (ho 5 (by decide)), Lq_out (ho 6 (by decide)), Lq_out (ho 7 (by decide))]
  constructor
  · rintro ⟨z, z0, z1, z2, z3, z4, z5, z6, z7⟩
    exact ⟨by omega, z0.2, z1.2, z2.2, z3.2, z4.2⟩
  · rintro ⟨z, z0, z1, z2, z3, z4⟩
    exact ⟨by omega, ⟨by omega, z0⟩, ⟨by omega, z1⟩, ⟨by omega, z2⟩, ⟨by omega, z3⟩, ⟨by omega, z4⟩, by omega, by omega, by omega⟩
theorem t_w7 {X : fX} {B : Int → Int} {n t o : Int} {e : pE} {M : fM} {d : Nat} (h : mS B n t o e M) : fC X (d + 2) mX7_isWord [.ref (xa X 59), .int (iv 119), .int (iv 111), .int (iv 114), .int (iv 116), .int (iv 104), .int (iv 0), .int (iv 0), .int (iv 0)] M (QI fun r M' => M' = M ∧ bz r (∃ x, e = .ok x ∧ ptk x = 261 ∧ pvl x = -1)) := by
  have h2 := h.1.1.2.1.2
  refine fC.mono (t_X7_isWord h.1.1 ⟨h.1.2.2.2.1, by have := h.1.2.2.2.2; omega⟩ h.1.2.2.1.2 (by omega) (by omega) (by omega) (by omega) (by omega) (by omega) (by omega) (by omega)) (fun r M' _ hq => ⟨hq.1, ?_⟩)
  have hw := h.wd (c := 261) (v := -1) (by decide) (P := M 59 23 ≤ M 59 25 + 8 ∧ Lq B (M 59 25) (M 59 23) 0 119 ∧ Lq B (M 59 25) (M 59 23) 1 111 ∧ Lq B (M 59 25) (M 59 23) 2 114 ∧ Lq B (M 59 25) (M 59 23) 3 116 ∧ Lq B (M 59 25) (M 59 23) 4 104 ∧ Lq B (M 59 25) (M 59 23) 5 0 ∧ Lq B (M 59 25) (M 59 23) 6 0 ∧ Lq B (M 59 25) (M 59 23) 7 0) (W := wq7 B (M 59 25) (M 59 23)) (fun _ g1 g2 => lq_7 g1 g2) wcl_7
  exact hq.2.imp (fun z => ⟨z.1, hw.mp z.2⟩) (fun z => ⟨z.1, fun y => z.2 (hw.mpr y)⟩)
theorem lq_8 {B : Int → Int} {a x : Int} (hlt : a < x) (hl : ∀ j, a ≤ j → j < x → bLt (B j)) : (x ≤ a + 8 ∧ Lq B a x 0 100 ∧ Lq B a x 1 114 ∧ Lq B a x 2 105 ∧ Lq B a x 3 102 ∧ Lq B a x 4 116 ∧ Lq B a x 5 0 ∧ Lq B a x 6 0 ∧ Lq B a x 7 0) ↔ wq8 B a x := by
  have ho : ∀ i : Int, 0 ≤ i → a + i < x → B (a + i) ≠ 0 := fun i h0 h1 => by have := hl (a + i) (by omega) h1; omega
  rw [Lq_in (i := 0) (by decide), Lq_in (i := 1) (by decide), Lq_in (i := 2) (by decide), Lq_in (i := 3) (by decide), Lq_in (i := 4) (by decide), Lq_out (ho 5 (by decide)), Lq_out (ho 6 (by decide)), Lq_out (ho 7 (by decide))]
  constructor
  · rintro ⟨z, z0, z1, z2, z3, z4, z5, z6, z7⟩
    exact ⟨by omega, z0.2, z1.2, z2.2, z3.2, z4.2⟩
  · rintro ⟨z, z0, z1, z2, z3, z4⟩
    exact ⟨by omega, ⟨by omega, z0⟩, ⟨by omega, z1⟩, ⟨by omega, z2⟩, ⟨by omega, z3⟩, ⟨by omega, z4⟩, by omega, by omega, by omega⟩
theorem t_w8 {X : fX} {B : Int → Int} {n t o : Int} {e : pE} {M : fM} {d : Nat} (h : mS B n t o e M) : fC X (d + 2) mX7_isWord [.ref (xa X 59), .int (iv 100), .int (iv 114), .int (iv 105), .int (iv 102), .int (iv 116), .int (iv 0), .int (iv 0), .int (iv 0)] M (QI fun r M' => M' = M ∧ bz r (∃ x, e = .ok x ∧ ptk x = 262 ∧ pvl x = -1)) := by
  have h2 := h.1.1.2.1.2
  refine fC.mono (t_X7_isWord h.1.1 ⟨h.1.2.2.2.1, by have := h.1.2.2.2.2; omega⟩ h.1.2.2.1.2 (by omega) (by omega) (by omega) (by omega) (by omega) (by omega) (by omega) (by omega)) (fun r M' _ hq => ⟨hq.1, ?_⟩)
  have hw := h.wd (c := 262) (v := -1) (by decide) (P := M 59 23 ≤ M 59 25 + 8 ∧ Lq B (M 59 25) (M 59 23) 0 100 ∧ Lq B (M 59 25) (M 59 23) 1 114 ∧ Lq B (M 59 25) (M 59 23) 2 105 ∧ Lq B (M 59 25) (M 59 23) 3 102 ∧ Lq B (M 59 25) (M 59 23) 4 116 ∧ Lq B (M 59 25) (M 59 23) 5 0 ∧ Lq B (M 59 25) (M 59 23) 6 0 ∧ Lq B (M 59 25) (M 59 23) 7 0) (W := wq8 B (M 59 25) (M 59 23)) (fun _ g1 g2 => lq_8 g1 g2) wcl_8
  exact hq.2.imp (fun z => ⟨z.1, hw.mp z.2⟩) (fun z => ⟨z.1, fun y => z.2 (hw.mpr y)⟩)
theorem lq_9 {B : Int → Int} {a x : Int} (hlt : a < x) (hl : ∀ j, a ≤ j → j < x → bLt (B j)) : (x ≤ a + 8 ∧ Lq B a x 0 111 ∧ Lq B a x 1 114 ∧ Lq B a x 2 0 ∧ Lq B a x 3 0 ∧ Lq B a x 4 0 ∧ Lq B a x 5 0 ∧ Lq B a x 6 0 ∧ Lq B a x 7 0) ↔ wq9 B a x := by
  have ho : ∀ i : Int, 0 ≤ i → a + i < x → B (a + i) ≠ 0 := fun i h0 h1 => by have := hl (a + i) (by omega) h1; omega
  rw [Lq_in (i := 0) (by decide), Lq_in (i := 1) (by decide), Lq_out (ho 2 (by decide)), Lq_out (ho 3 (by decide)), Lq_out (ho 4 (by decide)), Lq_out (ho 5 (by decide)), Lq_out (ho 6 (by decide)), Lq_out (ho 7 (by decide))]
  constructor
  · rintro ⟨z, z0, z1, z2, z3, z4, z5, z6, z7⟩
    exact ⟨by omega, z0.2, z1.2⟩
  · rintro ⟨z, z0, z1⟩
    exact ⟨by omega, ⟨by omega, z0⟩, ⟨by omega, z1⟩, by omega, by omega, by omega, by omega, by omega, by omega⟩
theorem t_w9 {X : fX} {B : Int → Int} {n t o : Int} {e : pE} {M : fM} {d : Nat} (h : mS B n t o e M) : fC X (d + 2) mX7_isWord [.ref (xa X 59), .int (iv 111), .int (iv 114), .int (iv 0), .int (iv 0), .int (iv 0), .int (iv 0), .int (iv 0), .int (iv 0)] M (QI fun r M' => M' = M ∧ bz r (∃ x, e = .ok x ∧ ptk x = 263 ∧ pvl x = -1)) := by
  have h2 := h.1.1.2.1.2
  refine fC.mono (t_X7_isWord h.1.1 ⟨h.1.2.2.2.1, by have := h.1.2.2.2.2; omega⟩ h.1.2.2.1.2 (by omega) (by omega) (by omega) (by omega) (by omega) (by omega) (by omega) (by omega)) (fun r M' _ hq => ⟨hq.1, ?_⟩)
  have hw := h.wd (c := 263) (v := -1) (by decide) (P := M 59 23 ≤ M 59 25 + 8 ∧ Lq B (M 59 25) (M 59 23) 0 111 ∧ Lq B (M 59 25) (M 59 23) 1 114 ∧ Lq B (M 59 25) (M 59 23) 2 0 ∧ Lq B (M 59 25) (M 59 23) 3 0 ∧ Lq B (M 59 25) (M 59 23) 4 0 ∧ Lq B (M 59 25) (M 59 23) 5 0 ∧ Lq B (M 59 25) (M 59 23) 6 0 ∧ Lq B (M 59 25) (M 59 23) 7 0) (W := wq9 B (M 59 25) (M 59 23)) (fun _ g1 g2 => lq_9 g1 g2) wcl_9
  exact hq.2.imp (fun z => ⟨z.1, hw.mp z.2⟩) (fun z => ⟨z.1, fun y => z.2 (hw.mpr y)⟩)
theorem lq_10 {B : Int → Int} {a x : Int} (hlt : a < x) (hl : ∀ j, a ≤ j → j < x → bLt (B j)) : (x ≤ a + 8 ∧ Lq B a x 0 97 ∧ Lq B a x 1 110 ∧ Lq B a x 2 100 ∧ Lq B a x 3 0 ∧ Lq B a x 4 0 ∧ Lq B a x 5 0 ∧ Lq B a x 6 0 ∧ Lq B a x 7 0) ↔ wq10 B a x := by
  have ho : ∀ i : Int, 0 ≤ i → a + i < x → B (a + i) ≠ 0 := fun i h0 h1 => by have := hl (a + i) (by omega) h1; omega
  rw [Lq_in (i := 0) (by decide), Lq_in (i := 1) (by decide), Lq_in (i := 2) (by decide), Lq_out (ho 3 (by decide)), Lq_out (ho 4 (by decide)), Lq_out (ho 5 (by decide)), Lq_out (ho 6 (by decide)), Lq_out (ho 7 (by decide))]
  constructor
  · rintro ⟨z, z0, z1, z2, z3, z4, z5, z6, z7⟩
    exact ⟨by omega, z0.2, z1.2, z2.2⟩
  · rintro ⟨z, z0, z1, z2⟩
    exact ⟨by omega, ⟨by omega, z0⟩, ⟨by omega, z1⟩, ⟨by omega, z2⟩, by omega, by omega, by omega, by omega, by omega⟩
theorem t_w10 {X : fX} {B : Int → Int} {n t o : Int} {e : pE} {M : fM} {d : Nat} (h : mS B n t o e M) : fC X (d + 2) mX7_isWord [.ref (xa X 59), .int (iv 97), .int (iv 110), .int (iv 100), .int (iv 0), .int (iv 0), .int (iv 0), .int (iv 0), .int (iv 0)] M (QI fun r M' => M' = M ∧ bz r (∃ x, e = .ok x ∧ ptk x = 264 ∧ pvl x = -1)) := by
  have h2 := h.1.1.2.1.2
  refine fC.mono (t_X7_isWord h.1.1 ⟨h.1.2.2.2.1, by have := h.1.2.2.2.2; omega⟩ h.1.2.2.1.2 (by omega) (by omega) (by omega) (by omega) (by omega) (by omega) (by omega) (by omega)) (fun r M' _ hq => ⟨hq.1, ?_⟩)
  have hw := h.wd (c := 264) (v := -1) (by decide) (P := M 59 23 ≤ M 59 25 + 8 ∧ Lq B (M 59 25) (M 59 23) 0 97 ∧ Lq B (M 59 25) (M 59 23) 1 110 ∧ Lq B (M 59 25) (M 59 23) 2 100 ∧ Lq B (M 59 25) (M 59 23) 3 0 ∧ Lq B (M 59 25) (M 59 23) 4 0 ∧ Lq B (M 59 25) (M 59 23) 5 0 ∧ Lq B (M 59 25) (M 59 23) 6 0 ∧ Lq B (M 59 25) (M 59 23) 7 0) (W := wq10 B (M 59 25) (M 59 23)) (fun _ g1 g2 => lq_10 g1 g2) wcl_10
  exact hq.2.imp (fun z => ⟨z.1, hw.mp z.2⟩) (fun z => ⟨z.1, fun y => z.2 (hw.mpr y)⟩)
theorem lq_11 {B : Int → Int} {a x : Int} (hlt : a < x) (hl : ∀ j, a ≤ j → j < x → bLt (B j)) : (x ≤ a + 8 ∧ Lq B a x 0 110 ∧ Lq B a x 1 111 ∧ Lq B a x 2 116 ∧ Lq B a x 3 0 ∧ Lq B a x 4 0 ∧ Lq B a x 5 0 ∧ Lq B a x 6 0 ∧ Lq B a x 7 0) ↔ wq11 B a x := by
  have ho : ∀ i : Int, 0 ≤ i → a + i < x → B (a + i) ≠ 0 := fun i h0 h1 => by have := hl (a + i) (by omega) h1; omega
  rw [Lq_in (i := 0) (by decide), Lq_in (i := 1) (by decide), Lq_in (i := 2) (by decide), Lq_out (ho 3 (by decide)), Lq_out (ho 4 (by decide)), Lq_out (ho 5 (by decide)), Lq_out (ho 6 (by decide)), Lq_out (ho 7 (by decide))]
  constructor
  · rintro ⟨z, z0, z1, z2, z3, z4, z5, z6, z7⟩
    exact ⟨by omega, z0.2, z1.2, z2.2⟩
  · rintro ⟨z, z0, z1, z2⟩
    exact ⟨by omega, ⟨by omega, z0⟩, ⟨by omega, z1⟩, ⟨by omega, z2⟩, by omega, by omega, by omega, by omega, by omega⟩
theorem t_w11 {X : fX} {B : Int → Int} {n t o : Int} {e : pE} {M : fM} {d : Nat} (h : mS B n t o e M) : fC X (d + 2) mX7_isWord [.ref (xa X 59), .int (iv 110), .int (iv 111), .int (iv 116), .int (iv 0), .int (iv 0), .int (iv 0), .int (iv 0), .int (iv 0)] M (QI fun r M' => M' = M ∧ bz r (∃ x, e = .ok x ∧ ptk x = 265 ∧ pvl x = -1)) := by
  have h2 := h.1.1.2.1.2
  refine fC.mono (t_X7_isWord h.1.1 ⟨h.1.2.2.2.1, by have := h.1.2.2.2.2; omega⟩ h.1.2.2.1.2 (by omega) (by omega) (by omega) (by omega) (by omega) (by omega) (by omega) (by omega)) (fun r M' _ hq => ⟨hq.1, ?_⟩)
  have hw := h.wd (c := 265) (v := -1) (by decide) (P := M 59 23 ≤ M 59 25 + 8 ∧ Lq B (M 59 25) (M 59 23) 0 110 ∧ Lq B (M 59 25) (M 59 23) 1 111 ∧ Lq B (M 59 25) (M 59 23) 2 116 ∧ Lq B (M 59 25) (M 59 23) 3 0 ∧ Lq B (M 59 25) (M 59 23) 4 0 ∧ Lq B (M 59 25) (M 59 23) 5 0 ∧ Lq B (M 59 25) (M 59 23) 6 0 ∧ Lq B (M 59 25) (M 59 23) 7 0) (W := wq11 B (M 59 25) (M 59 23)) (fun _ g1 g2 => lq_11 g1 g2) wcl_11
  exact hq.2.imp (fun z => ⟨z.1, hw.mp z.2⟩) (fun z => ⟨z.1, fun y => z.2 (hw.mpr y)⟩)
set_option maxRecDepth 20000 in
set_option maxHeartbeats 4000000 in
theorem t_X7_opens {X : fX} {B : Int → Int} {n t o : Int} {x : pT} {M : fM} {d : Nat} (h : mS B n t o (.ok x) M) (hk : ptk x ≠ 258) : fC X (d + 2) mX7_opens [.ref (xa X 59)] M (QI fun r K => mF M K ∧ ((o = 5 ∧ r = 0 ∧ mS B n t o (.error (pat x)) K ∧ K 59 28 ≠ 0) ∨ (o < 5 ∧ r = 1 ∧ mS B n t (o + 1) (adv B n x) K))) := by
  refine fC.of (L := [_]) (by decide +kernel) rfl (Nat.le_of_ble_eq_true rfl) (fun Z hZ hR => ?_)
  have ho27 : M 59 27 = o := h.1.2.1.1
  have hor := h.1.2.1.2
  refine f_aload_n hZ dX7_opens_0 rfl ?_
  refine gX7_198 hZ dX7_opens_1 (fun r1 => ?_)
  refine f_iconst hZ dX7_opens_4 ?_
  refine f_ine (tgt := 14) hZ dX7_opens_5 rfl (by omega) (by omega) (fun h5 => ?_) (fun h5 => ?_)
  · refine f_aload_n hZ dX7_opens_14 rfl ?_
    refine f_dup hZ dX7_opens_15 rfl ?_
    refine gX7_198 hZ dX7_opens_16 (fun r16 => ?_)
    refine f_iconst hZ dX7_opens_19 ?_
    refine f_iadd hZ dX7_opens_20 ?_
    refine pX7_198 hZ dX7_opens_21 (by omega) ?_
    rw [ho27]
    have hop := h.opn (o' := o + 1) (by omega)
    refine f_aload_n hZ dX7_opens_24 rfl ?_
    refine vX7_204 hZ dX7_opens_25 (c_next hop.1 hk) (fun M25 h25 => ?_)
    refine f_iconst hZ dX7_opens_28 ?_
    exact f_retZ hZ hR dX7_opens_29 rfl (by omega) (by first | exact ⟨h9.2.1, Or.inl ⟨by omega, rfl, h9.1, h9.2.2⟩⟩ | exact ⟨hop.2.trans h25.2, Or.inr ⟨by omega, rfl, h25.1⟩⟩)
  · refine f_aload_n hZ dX7_opens_8 rfl ?_
    refine vX7_201 hZ dX7_opens_9 (c_mfail h) (fun M9 h9 => ?_)
    refine f_iconst hZ dX7_opens_12 ?_
    exact f_retZ hZ hR dX7_opens_13 rfl (by omega) (by first | exact ⟨h9.2.1, Or.inl ⟨by omega, rfl, h9.1, h9.2.2⟩⟩ | exact ⟨hop.2.trans h25.2, Or.inr ⟨by omega, rfl, h25.1⟩⟩)

theorem name_no {B : Int → Int} {n t o : Int} {e : pE} {M K : fM} {r : Int} (h : mS B n t o e M) (hf : mS B n t o (eb e fun x => .error (pat x)) K ∧ mF M K ∧ K 59 28 ≠ 0) (n0 : ¬ ∃ x, e = .ok x ∧ ptk x = 257 ∧ pvl x = 0) (n1 : ¬ ∃ x, e = .ok x ∧ ptk x = 257 ∧ pvl x = 1) (n2 : ¬ ∃ x, e = .ok x ∧ ptk x = 257 ∧ pvl x = 2) (n3 : ¬ ∃ x, e = .ok x ∧ ptk x = 257 ∧ pvl x = 3) (n4 : ¬ ∃ x, e = .ok x ∧ ptk x = 257 ∧ pvl x = 4) (n5 : ¬ ∃ x, e = .ok x ∧ ptk x = 257 ∧ pvl x = 5) : mS B n t o (eb e fun x => if ptk x = 257 then .ok x else .error (pat x)) K ∧ mF M K ∧ (∀ x, e = .ok x → ptk x = 257 → r = nmM M (pvl x)) ∧ (K 59 28 = 0 → ∃ x, e = .ok x ∧ ptk x = 257) ∧ ((∃ x, e = .ok x ∧ ptk x = 257) → K 59 28 = 0) := by
  have hno : ∀ x, e = .ok x → ptk x ≠ 257 := fun x hx hk => by
    have h1 := h
    rw [hx] at h1
    obtain ⟨_, c1, c2, c3, c4, c5⟩ := h1
    rcases c4 with y | y | y | y | y
    · omega
    · omega
    · have := wcl_rg (B := B) (a := pat x) (x := M 59 23)
      rw [y.2.1] at this
      have h2 : (ptk x = 257 ∧ 0 ≤ pvl x ∧ pvl x ≤ 5) ∨ (259 ≤ ptk x ∧ ptk x ≤ 265 ∧ pvl x = -1) := this
      rcases (show pvl x = 0 ∨ pvl x = 1 ∨ pvl x = 2 ∨ pvl x = 3 ∨ pvl x = 4 ∨ pvl x = 5 by omega) with g | g | g | g | g | g
      · exact n0 ⟨x, hx, hk, g⟩
      · exact n1 ⟨x, hx, hk, g⟩
      · exact n2 ⟨x, hx, hk, g⟩
      · exact n3 ⟨x, hx, hk, g⟩
      · exact n4 ⟨x, hx, hk, g⟩
      · exact n5 ⟨x, hx, hk, g⟩
    · have := y.1; omega
    · omega
  refine ⟨?_, hf.2.1, fun x hx hk => absurd hk (hno x hx), fun q => absurd q hf.2.2, fun ⟨x, hx, hk⟩ => absurd hk (hno x hx)⟩
  have h1 := hf.1
  cases e with
  | error p => exact h1
  | ok x =>
    show mS B n t o (if ptk x = 257 then .ok x else .error (pat x)) K
    rw [if_neg (hno x rfl)]
    exact h1
set_option maxRecDepth 20000 in
set_option maxHeartbeats 4000000 in
theorem t_X7_name {X : fX} {B : Int → Int} {n t o : Int} {e : pE} {M : fM} {d : Nat} (h : mS B n t o e M) : fC X (d + 3) mX7_name [.ref (xa X 59)] M (QI fun r K => mS B n t o (eb e fun x => if ptk x = 257 then .ok x else .error (pat x)) K ∧ mF M K ∧ (∀ x, e = .ok x → ptk x = 257 → r = nmM M (pvl x)) ∧ (K 59 28 = 0 → ∃ x, e = .ok x ∧ ptk x = 257) ∧ ((∃ x, e = .ok x ∧ ptk x = 257) → K 59 28 = 0)) := by
  refine fC.of (L := [_]) (by decide +kernel) rfl (Nat.le_of_ble_eq_true rfl) (fun Z hZ hR => ?_)
  refine f_aload_n hZ dX7_name_0 rfl ?_
  refine f_bipush hZ dX7_name_1 ?_
  refine f_bipush hZ dX7_name_3 ?_
  refine f_bipush hZ dX7_name_5 ?_
  refine f_bipush hZ dX7_name_7 ?_
  refine f_bipush hZ dX7_name_9 ?_
  refine f_iconst hZ dX7_name_11 ?_
  refine f_iconst hZ dX7_name_12 ?_
  refine f_iconst hZ dX7_name_13 ?_
  refine vX7_207 hZ dX7_name_14 (t_w0 h) (fun u0 M0 r0 q0 => ?_)
  obtain ⟨e0, q0⟩ := q0
  subst e0
  replace q0 : hz u0 _ := q0
  refine f_eq (tgt := 25) hZ dX7_name_17 rfl (by omega) (fun h17 => ?_) (fun h17 => ?_)
  · refine f_aload_n hZ dX7_name_25 rfl ?_
    refine f_bipush hZ dX7_name_26 ?_
    refine f_bipush hZ dX7_name_28 ?_
    refine f_bipush hZ dX7_name_30 ?_
    refine f_bipush hZ dX7_name_32 ?_
    refine f_iconst hZ dX7_name_34 ?_
    refine f_iconst hZ dX7_name_35 ?_
    refine f_iconst hZ dX7_name_36 ?_
    refine f_iconst hZ dX7_name_37 ?_
    refine vX7_207 hZ dX7_name_38 (t_w1 h) (fun u1 M1 r1 q1 => ?_)
    obtain ⟨e1, q1⟩ := q1
    subst e1
    replace q1 : hz u1 _ := q1
    refine f_eq (tgt := 49) hZ dX7_name_41 rfl (by omega) (fun h41 => ?_) (fun h41 => ?_)
    · refine f_aload_n hZ dX7_name_49 rfl ?_
      refine f_bipush hZ dX7_name_50 ?_
      refine f_bipush hZ dX7_name_52 ?_
      refine f_bipush hZ dX7_name_54 ?_
      refine f_iconst hZ dX7_name_56 ?_
      refine f_iconst hZ dX7_name_57 ?_
      refine f_iconst hZ dX7_name_58 ?_
      refine f_iconst hZ dX7_name_59 ?_
      refine f_iconst hZ dX7_name_60 ?_
      refine vX7_207 hZ dX7_name_61 (t_w2 h) (fun u2 M2 r2 q2 => ?_)
      obtain ⟨e2, q2⟩ := q2
      subst e2
      replace q2 : hz u2 _ := q2
      refine f_eq (tgt := 72) hZ dX7_name_64 rfl (by omega) (fun h64 => ?_) (fun h64 => ?_)
      · refine f_aload_n hZ dX7_name_72 rfl ?_
        refine f_bipush hZ dX7_name_73 ?_
        refine f_bipush hZ dX7_name_75 ?_
        refine f_bipush hZ dX7_name_77 ?_
        refine f_bipush hZ dX7_name_79 ?_
        refine f_bipush hZ dX7_name_81 ?_
        refine f_iconst hZ dX7_name_83 ?_
        refine f_iconst hZ dX7_name_84 ?_
        refine f_iconst hZ dX7_name_85 ?_
        refine vX7_207 hZ dX7_name_86 (t_w3 h) (fun u3 M3 r3 q3 => ?_)
        obtain ⟨e3, q3⟩ := q3
        subst e3
        replace q3 : hz u3 _ := q3
        refine f_eq (tgt := 97) hZ dX7_name_89 rfl (by omega) (fun h89 => ?_) (fun h89 => ?_)
        · refine f_aload_n hZ dX7_name_97 rfl ?_
          refine f_bipush hZ dX7_name_98 ?_
          refine f_bipush hZ dX7_name_100 ?_
          refine f_bipush hZ dX7_name_102 ?_
          refine f_bipush hZ dX7_name_104 ?_
          refine f_iconst hZ dX7_name_106 ?_
          refine f_iconst hZ dX7_name_107 ?_
          refine f_iconst hZ dX7_name_108 ?_
          refine f_iconst hZ dX7_name_109 ?_
          refine vX7_207 hZ dX7_name_110 (t_w4 h) (fun u4 M4 r4 q4 => ?_)
          obtain ⟨e4, q4⟩ := q4
          subst e4
          replace q4 : hz u4 _ := q4
          refine f_eq (tgt := 121) hZ dX7_name_113 rfl (by omega) (fun h113 => ?_) (fun h113 => ?_)
          · refine f_aload_n hZ dX7_name_121 rfl ?_
            refine f_bipush hZ dX7_name_122 ?_
            refine f_bipush hZ dX7_name_124 ?_
            refine f_bipush hZ dX7_name_126 ?_
            refine f_bipush hZ dX7_name_128 ?_
            refine f_iconst hZ dX7_name_130 ?_
            refine f_iconst hZ dX7_name_131 ?_
            refine f_iconst hZ dX7_name_132 ?_
            refine f_iconst hZ dX7_name_133 ?_
            refine vX7_207 hZ dX7_name_134 (t_w5 h) (fun u5 M5 r5 q5 => ?_)
            obtain ⟨e5, q5⟩ := q5
            subst e5
            replace q5 : hz u5 _ := q5
            refine f_eq (tgt := 145) hZ dX7_name_137 rfl (by omega) (fun h137 => ?_) (fun h137 => ?_)
            · refine f_aload_n hZ dX7_name_145 rfl ?_
              refine vX7_201 hZ dX7_name_146 (c_mfail h) (fun M146 h146 => ?_)
              refine f_iconst hZ dX7_name_149 ?_
              exact f_retI hZ hR dX7_name_150 rfl (by omega) (by exact name_no h h146 (hz_f q0 (by omega)) (hz_f q1 (by omega)) (hz_f q2 (by omega)) (hz_f q3 (by omega)) (hz_f q4 (by omega)) (hz_f q5 (by omega)))
            · refine f_aload_n hZ dX7_name_140 rfl ?_
              refine gX7_226 hZ dX7_name_141 (fun r141 => ?_)
              exact f_retI hZ hR dX7_name_144 rfl (by omega) (by obtain ⟨x, rfl, g1, g2⟩ := hz_t q5 (by omega); exact ⟨by show mS B n t o (if ptk x = 257 then .ok x else _) _; rw [if_pos g1]; exact h, mF.refl, fun x' hx _ => by cases hx; rw [g2]; rfl, fun _ => ⟨x, rfl, g1⟩, fun _ => h.tok.2.2.2⟩)
          · refine f_aload_n hZ dX7_name_116 rfl ?_
            refine gX7_223 hZ dX7_name_117 (fun r117 => ?_)
            exact f_retI hZ hR dX7_name_120 rfl (by omega) (by obtain ⟨x, rfl, g1, g2⟩ := hz_t q4 (by omega); exact ⟨by show mS B n t o (if ptk x = 257 then .ok x else _) _; rw [if_pos g1]; exact h, mF.refl, fun x' hx _ => by cases hx; rw [g2]; rfl, fun _ => ⟨x, rfl, g1⟩, fun _ => h.tok.2.2.2⟩)
        · refine f_aload_n hZ dX7_name_92 rfl ?_
          refine gX7_220 hZ dX7_name_93 (fun r93 => ?_)
          exact f_retI hZ hR dX7_name_96 rfl (by omega) (by obtain ⟨x, rfl, g1, g2⟩ := hz_t q3 (by omega); exact ⟨by show mS B n t o (if ptk x = 257 then .ok x else _) _; rw [if_pos g1]; exact h, mF.refl, fun x' hx _ => by cases hx; rw [g2]; rfl, fun _ => ⟨x, rfl, g1⟩, fun _ => h.tok.2.2.2⟩)
      · refine f_aload_n hZ dX7_name_67 rfl ?_
        refine gX7_217 hZ dX7_name_68 (fun r68 => ?_)
        exact f_retI hZ hR dX7_name_71 rfl (by omega) (by obtain ⟨x, rfl, g1, g2⟩ := hz_t q2 (by omega); exact ⟨by show mS B n t o (if ptk x = 257 then .ok x else _) _; rw [if_pos g1]; exact h, mF.refl, fun x' hx _ => by cases hx; rw [g2]; rfl, fun _ => ⟨x, rfl, g1⟩, fun _ => h.tok.2.2.2⟩)
    · refine f_aload_n hZ dX7_name_44 rfl ?_
      refine gX7_214 hZ dX7_name_45 (fun r45 => ?_)
      exact f_retI hZ hR dX7_name_48 rfl (by omega) (by obtain ⟨x, rfl, g1, g2⟩ := hz_t q1 (by omega); exact ⟨by show mS B n t o (if ptk x = 257 then .ok x else _) _; rw [if_pos g1]; exact h, mF.refl, fun x' hx _ => by cases hx; rw [g2]; rfl, fun _ => ⟨x, rfl, g1⟩, fun _ => h.tok.2.2.2⟩)
  · refine f_aload_n hZ dX7_name_20 rfl ?_
    refine gX7_211 hZ dX7_name_21 (fun r21 => ?_)
    exact f_retI hZ hR dX7_name_24 rfl (by omega) (by obtain ⟨x, rfl, g1, g2⟩ := hz_t q0 (by omega); exact ⟨by show mS B n t o (if ptk x = 257 then .ok x else _) _; rw [if_pos g1]; exact h, mF.refl, fun x' hx _ => by cases hx; rw [g2]; rfl, fun _ => ⟨x, rfl, g1⟩, fun _ => h.tok.2.2.2⟩)

