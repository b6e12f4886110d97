/-! the class's reader stands for a reading -/
theorem fC.monoV {X : fX} {d : Nat} {y : fY} {As : List Value} {M : fM} {P P' : fM → Prop} (h : fC X d y As M (QV P)) (hp : ∀ M', P M' → P' M') : fC X d y As M (QV P') := fun hm => by
  intro p e ha hc hk s m args below hf happ hP hT
  obtain ⟨n, o, h1, h2, h3, ⟨r, M1, e1, ⟨e2, pa⟩, h6⟩, h7⟩ := h hm p e ha hc hk s m args below hf happ hP hT
  exact ⟨n, o, h1, h2, h3, ⟨r, M1, e1, ⟨e2, hp M1 pa⟩, h6⟩, h7⟩
def RSc (n t : Int) (e : pE) (M : fM) : Prop := match e with
  | .ok x => (0 ≤ pat x ∧ pat x ≤ n ∧ ptk x ≠ 259) ∧ M 37 4 = pat x ∧ (ptk x ≠ 258 → M 37 5 = pnx x) ∧ M 37 6 = ptk x ∧ (ptk x = 256 ∨ ptk x = 257 → M 37 7 = pvl x) ∧ M 37 8 = -1 ∧ (M 37 3 = (pcd x).length ∧ (pcd x).length ≤ 160) ∧ ∀ k : Nat, k < (pcd x).length → M (22 + t).toNat k = (pcd x).getD k 0
  | .error p => (0 ≤ p ∧ p ≤ n) ∧ M 37 8 = p ∧ M 37 6 = 259 ∧ 0 ≤ M 37 3 ∧ M 37 3 ≤ 160
def RS (B : Int → Int) (n t : Int) (e : pE) (M : fM) : Prop := ((M 37 1 = 22 + t ∧ 0 ≤ t ∧ t < 6) ∧ (M 37 2 = n ∧ 0 ≤ n ∧ n ≤ 160) ∧ M 20 = B ∧ (0 ≤ M 37 5 ∧ M 37 5 ≤ n)) ∧ RSc n t e M
def rF (t : Int) (M K : fM) : Prop := (∀ c, c ≠ 37 → c ≠ (22 + t).toNat → K c = M c) ∧ K 37 1 = M 37 1 ∧ K 37 2 = M 37 2
theorem rF.refl {t : Int} {M : fM} : rF t M M := ⟨fun _ _ _ => rfl, rfl, rfl⟩
theorem rF.trans {t : Int} {M N K : fM} (h : rF t M N) (h2 : rF t N K) : rF t M K := ⟨fun c a b => by rw [h2.1 c a b, h.1 c a b], by rw [h2.2.1, h.2.1], by rw [h2.2.2, h.2.2]⟩
def WE (n : Int) (e : pE) : Prop := ∀ x, e = .ok x → WfX n x
def RC (B : Int → Int) (n t : Int) (X : fX) (d : Nat) (y : fY) (o : Int) (f : pT → pE) : Prop := ∀ (M : fM) (e : pE), RS B n t e M → WE n e → fC X d y [.ref (xa X 37), .int (iv o)] M (QV fun K => RS B n t (eb e f) K ∧ rF t M K)
section RSx
variable {X : fX} {B : Int → Int} {n t : Int} {e : pE} {M K : fM} {d : Nat}
theorem rFld.rF (ht : 0 ≤ t) (h : rFld M K) : rF t M K := ⟨fun c a _ => h.1 c a, h.2.1, h.2.2.1⟩
theorem RS.adv (h : RS B n t e M) (hk : ∀ x, e = .ok x → ptk x ≠ 258) (ha : (M 37 8 ≠ -1 ∧ K = M) ∨ (M 37 8 = -1 ∧ advP M K)) : RS B n t (eb e (adv B n)) K ∧ rF t M K := by
  obtain ⟨⟨s1, s2, s3, s4⟩, hc⟩ := h
  cases e with
  | error p =>
    rcases ha with ⟨_, rfl⟩ | ⟨q, _⟩
    · exact ⟨⟨⟨s1, s2, s3, s4⟩, hc⟩, rF.refl⟩
    · exfalso
      have h1 := hc.1
      have h2 := hc.2.1
      omega
  | ok x =>
    obtain ⟨c1, c2, c3, c4, c5, c6, c7, c8⟩ := hc
    have hk := hk x rfl
    rcases ha with ⟨q, _⟩ | ⟨_, a1, a2, a3, a4, a5⟩
    · exact absurd c6 q
    · have c3 := c3 hk
      rw [s3, s2.1, c3] at a3 a4 a5
      rw [c3] at s4
      have hlex := lex_wf (B := B) (n := n) (i := pnx x) s4.2
      have es : (22 + t).toNat ≠ 37 := by omega
      have e20 : K 20 = B := by rw [a1.1 20 (by decide)]; exact s3
      refine ⟨⟨⟨⟨by rw [a1.2.1]; exact s1.1, s1.2⟩, ⟨by rw [a1.2.2.1]; exact s2.1, s2.2⟩, e20, by rw [s2.1] at a2; exact a2⟩, ?_⟩, a1.rF s1.2.1⟩
      show RSc n t (adv B n x) K
      unfold adv
      by_cases hb : (lex B n (pnx x)).2.2.1 = 259
      · rw [if_pos hb]
        have := a4 hb
        exact ⟨⟨by omega, by omega⟩, this.1, this.2, by rw [a1.2.2.2, c7.1]; omega, by rw [a1.2.2.2, c7.1]; have := c7.2; omega⟩
      · rw [if_neg hb]
        obtain ⟨b1, b2, b3, b4⟩ := a5 hb
        refine ⟨⟨by show 0 ≤ (lex B n (pnx x)).1; omega, hlex.1.2, hb⟩, a3, b3, b2, b4, b1, ⟨by rw [a1.2.2.2]; exact c7.1, c7.2⟩, fun k hk => ?_⟩
        rw [a1.1 _ es]; exact c8 k hk
theorem RS.hn (h : RS B n t e M) : 0 ≤ M 37 5 ∧ M 37 5 ≤ M 37 2 ∧ M 37 2 ≤ 160 := by
  have := h.1.2
  omega
theorem c_adv (h : RS B n t e M) (hk : ∀ x, e = .ok x → ptk x ≠ 258) : fC X (d + 6) mX2_advance [.ref (xa X 37)] M (QV fun K => RS B n t (eb e (adv B n)) K ∧ rF t M K) := fC.monoV (t_X2_advance h.hn) (fun K hK => h.adv hk hK)
theorem RS.fail (h : RS B n t e M) : RS B n t (eb e fun x => .error (pat x)) (failM M) ∧ rF t M (failM M) := by
  obtain ⟨⟨s1, s2, s3, s4⟩, hc⟩ := h
  cases e with
  | error p =>
    obtain ⟨c1, c2, c3, c4⟩ := hc
    have e1 : failM M = up M 37 6 259 := by unfold failM; rw [if_neg (by omega)]
    rw [e1]
    exact ⟨⟨⟨s1, s2, by rw [up_ne (by decide)]; exact s3, s4⟩, ⟨c1, c2, rfl, c4⟩⟩, fun c a _ => up_ne a, rfl, rfl⟩
  | ok x =>
    obtain ⟨c1, c2, c3, c4, c5, c6, c7, c8⟩ := hc
    obtain ⟨f1, f2, f3, f4, f5⟩ := failM_f c6
    refine ⟨⟨⟨⟨by rw [f1.2.1]; exact s1.1, s1.2⟩, ⟨by rw [f1.2.2.1]; exact s2.1, s2.2⟩, by rw [f1.1 20 (by decide)]; exact s3, by rw [f3]; exact s4⟩, ?_⟩, f1.rF s1.2.1⟩
    exact ⟨⟨c1.1, c1.2.1⟩, by rw [f4]; exact c2, f5, by rw [f1.2.2.2, c7.1]; omega, by rw [f1.2.2.2, c7.1]; have := c7.2; omega⟩
theorem c_fail (h : RS B n t e M) : fC X d mX2_fail [.ref (xa X 37)] M (QV fun K => RS B n t (eb e fun x => .error (pat x)) K ∧ rF t M K) := fC.monoV t_X2_fail (fun K hK => by rw [hK]; exact h.fail)
theorem RS.emit {c : Int} {v : pV} (h : RS B n t e M) (hl : ∀ x, e = .ok x → (pcd x).length < 160) (ha : (160 ≤ M 37 3 ∧ K = M) ∨ (M 37 3 < 160 ∧ K = up (up M (M 37 1).toNat (M 37 3) c) 37 3 (M 37 3 + 1))) : RS B n t (eb e fun x => .ok (emt c v x)) K ∧ rF t M K := by
  obtain ⟨⟨s1, s2, s3, s4⟩, hc⟩ := h
  have es : (22 + t).toNat ≠ 37 := by omega
  have es2 : (22 + t).toNat ≠ 20 := by omega
  have h37 : ∀ i v j, up (up M (22 + t).toNat i v) 37 3 j 20 = M 20 := fun i v j => by rw [up_ne (by decide), up_ne (by omega)]
  have h37b : ∀ i v j k, k ≠ 3 → up (up M (22 + t).toNat i v) 37 3 j 37 k = M 37 k := fun i v j k hk => by rw [up_app, if_neg (fun q => hk q.2), up_ne (by omega)]
  rw [s1.1] at ha
  cases e with
  | error p =>
    obtain ⟨c1, c2, c3, c4⟩ := hc
    rcases ha with ⟨_, rfl⟩ | ⟨q, rfl⟩
    · exact ⟨⟨⟨s1, s2, s3, s4⟩, ⟨c1, c2, c3, c4⟩⟩, rF.refl⟩
    · refine ⟨⟨⟨⟨by rw [h37b _ _ _ _ (by decide)]; exact s1.1, s1.2⟩, ⟨by rw [h37b _ _ _ _ (by decide)]; exact s2.1, s2.2⟩, by rw [h37]; exact s3, by rw [h37b _ _ _ _ (by decide)]; exact s4⟩, ?_⟩, fun c a b => by rw [up_ne a, up_ne b], h37b _ _ _ _ (by decide), h37b _ _ _ _ (by decide)⟩
      refine ⟨c1, by rw [h37b _ _ _ _ (by decide)]; exact c2, by rw [h37b _ _ _ _ (by decide)]; exact c3, ?_⟩
      rw [up_app, if_pos ⟨rfl, rfl⟩]
      omega
  | ok x =>
    obtain ⟨c1, c2, c3, c4, c5, c6, c7, c8⟩ := hc
    have hl := hl x rfl
    rcases ha with ⟨q, _⟩ | ⟨q, rfl⟩
    · exfalso
      have := c7.1
      omega
    · have el : (pcd (emt c v x)).length = (pcd x).length + 1 := by show (pcd x ++ [c]).length = _; rw [List.length_append]; rfl
      refine ⟨⟨⟨⟨by rw [h37b _ _ _ _ (by decide)]; exact s1.1, s1.2⟩, ⟨by rw [h37b _ _ _ _ (by decide)]; exact s2.1, s2.2⟩, by rw [h37]; exact s3, by rw [h37b _ _ _ _ (by decide)]; exact s4⟩, ?_⟩, fun c a b => by rw [up_ne a, up_ne b], h37b _ _ _ _ (by decide), h37b _ _ _ _ (by decide)⟩
      refine ⟨c1, by rw [h37b _ _ _ _ (by decide)]; exact c2, by rw [h37b _ _ _ _ (by decide)]; exact c3, by rw [h37b _ _ _ _ (by decide)]; exact c4, by rw [h37b _ _ _ _ (by decide)]; exact c5, by rw [h37b _ _ _ _ (by decide)]; exact c6, ⟨?_, by rw [el]; omega⟩, fun k hk => ?_⟩
      · rw [up_app, if_pos ⟨rfl, rfl⟩, el, c7.1]; omega
      · rw [up_ne es]
        show up M (22 + t).toNat (M 37 3) c (22 + t).toNat k = (pcd x ++ [c]).getD k 0
        rw [up_app]
        rw [el] at hk
        by_cases hkl : k = (pcd x).length
        · rw [if_pos ⟨rfl, by rw [c7.1, hkl]⟩, hkl]
          simp [List.getD_eq_getElem?_getD]
        · rw [if_neg (fun z => by have := z.2; have := c7.1; omega), c8 k (by omega)]
          simp only [List.getD_eq_getElem?_getD]
          rw [List.getElem?_append_left (by omega)]
theorem c_emit {c : Int} (v : pV) (hc : rg c) (h : RS B n t e M) (hl : ∀ x, e = .ok x → (pcd x).length < 160) : fC X d mX2_emit [.ref (xa X 37), .int (iv c)] M (QV fun K => RS B n t (eb e fun x => .ok (emt c v x)) K ∧ rF t M K) := by
  have h1 := h.1.1
  refine fC.monoV (t_X2_emit hc (by omega) ?_) (fun K hK => h.emit hl hK)
  obtain ⟨_, hc⟩ := h
  cases e with
  | error p => exact hc.2.2.2.1
  | ok x => have := hc.2.2.2.2.2.2.1.1; omega
theorem RS.tk (h : RS B n t e M) : (M 37 6 = 259 ∧ ∃ p, e = .error p) ∨ (M 37 6 ≠ 259 ∧ ∃ x, e = .ok x ∧ M 37 6 = ptk x) := by
  obtain ⟨_, hc⟩ := h
  cases e with
  | error p => exact Or.inl ⟨hc.2.2.1, p, rfl⟩
  | ok x => exact Or.inr ⟨by rw [hc.2.2.2.1]; exact hc.1.2.2, x, rfl, hc.2.2.2.1⟩
/-- a token that is met: what stood there -/
theorem RS.ok (h : RS B n t e M) {q : Int} (hq : M 37 6 = q) (h9 : q ≠ 259) : ∃ x, e = .ok x ∧ ptk x = q ∧ (q = 256 ∨ q = 257 → M 37 7 = pvl x) := by
  obtain ⟨_, hc⟩ := h
  cases e with
  | error p => exact absurd (hc.2.2.1.symm.trans hq).symm h9
  | ok x => exact ⟨x, rfl, by rw [← hc.2.2.2.1]; exact hq, fun z => hc.2.2.2.2.1 (by rw [← hc.2.2.2.1, hq]; exact z)⟩
end RSx
set_option maxRecDepth 20000 in
set_option maxHeartbeats 4000000 in
theorem t_X2_expect {X : fX} {B : Int → Int} {n t : Int} {e : pE} {M : fM} {d : Nat} {w : Int} (hw : 0 ≤ w ∧ w ≤ 262 ∧ w ≠ 258 ∧ w ≠ 259) (h : RS B n t e M) : fC X (d + 7) mX2_expect [.ref (xa X 37), .int (iv w)] M (QV fun K => RS B n t (eb e (expc B n w)) K ∧ rF t M K) := by
  refine fC.of (L := [_, _]) (by decide +kernel) rfl (Nat.le_of_ble_eq_true rfl) (fun Z hZ hR => ?_)
  refine f_aload_n hZ dX2_expect_0 rfl ?_
  refine gX2_24 hZ dX2_expect_1 (fun r1 => ?_)
  refine f_iload_n hZ dX2_expect_4 rfl ?_
  refine f_ine (tgt := 15) hZ dX2_expect_5 rfl (by omega) (by omega) (fun h5 => ?_) (fun h5 => ?_)
  · refine f_aload_n hZ dX2_expect_15 rfl ?_
    refine vX2_56 hZ dX2_expect_16 (c_fail h) (fun M16 h16 => ?_)
    exact f_retV hZ hR dX2_expect_19 rfl (by first | (refine ⟨?_, h9.2⟩; have h9 := h9.1; obtain ⟨y, g1, g2, _⟩ := h.ok h5 (by omega); subst g1; show RS B n t (if ptk y = w then adv B n y else .error (pat y)) _; rw [if_pos g2]; exact h9) | (refine ⟨?_, h16.2⟩; have h16 := h16.1; rcases h.tk with ⟨_, p, rfl⟩ | ⟨_, y, rfl, g2⟩; exact h16; show RS B n t (if ptk y = w then adv B n y else .error (pat y)) _; rw [if_neg (by omega)]; exact h16))
  · refine f_aload_n hZ dX2_expect_8 rfl ?_
    refine vX2_46 hZ dX2_expect_9 (c_adv h (fun x hx => by obtain ⟨y, g1, g2, _⟩ := h.ok h5 (by omega); rw [g1] at hx; cases hx; omega)) (fun M9 h9 => ?_)
    refine f_goto (tgt := 19) hZ dX2_expect_12 rfl ?_
    exact f_retV hZ hR dX2_expect_19 rfl (by first | (refine ⟨?_, h9.2⟩; have h9 := h9.1; obtain ⟨y, g1, g2, _⟩ := h.ok h5 (by omega); subst g1; show RS B n t (if ptk y = w then adv B n y else .error (pat y)) _; rw [if_pos g2]; exact h9) | (refine ⟨?_, h16.2⟩; have h16 := h16.1; rcases h.tk with ⟨_, p, rfl⟩ | ⟨_, y, rfl, g2⟩; exact h16; show RS B n t (if ptk y = w then adv B n y else .error (pat y)) _; rw [if_neg (by omega)]; exact h16))

