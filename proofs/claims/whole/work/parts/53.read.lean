/-! reading a whole text -/
def rdP (B : Int → Int) (n : Int) : Nat → pE
  | 0 => rd0 B n
  | k + 1 => rdW B n (rdP B n k) k
def vtx (B : Int → Int) (n : Int) (k : Int) : pV := match rdZ B n (rdP B n k.toNat) k with
  | .ok z => pv z
  | .error _ => fun _ => 0
def ln (e : pE) : Int := match e with
  | .ok y => (pcd y).length
  | .error _ => 0
theorem rdP_we {B : Int → Int} {n : Int} (hn : 0 ≤ n) : ∀ k : Nat, WE n (rdP B n k)
  | 0 => fun x hx => (rd0_wf hn hx).1
  | k + 1 => fun x hx => by
    obtain ⟨y, z, _, _, _, _, h, _⟩ := rdW_wf (by omega) hx (rdP_we hn k)
    exact h
section Rd
variable {X : fX} {B : Int → Int} {n t : Int} {M N K : fM}
theorem RS_start (s1 : M 37 1 = 22 + t ∧ 0 ≤ t ∧ t < 6) (s2 : M 37 2 = n ∧ 0 ≤ n ∧ n ≤ 160) (s3 : M 20 = B) (h5 : M 37 5 = 0) (h3 : M 37 3 = 0) (ha : advP M K) : RS B n t (rd0 B n) K ∧ rF t M K := by
  obtain ⟨a1, a2, a3, a4, a5⟩ := ha
  rw [s3, s2.1, h5] at a3 a4 a5
  have hlex := lex_wf (B := B) (n := n) (i := 0) s2.2.1
  have e20 : K 20 = B := by rw [a1.1 20 (by decide)]; exact s3
  refine ⟨⟨⟨⟨by rw [a1.2.1]; exact s1.1, s1.2⟩, ⟨by rw [a1.2.2.1]; exact s2.1, s2.2⟩, e20, by rw [s2.1] at a2; exact a2⟩, ?_⟩, a1.rF s1.2.1⟩
  unfold rd0 adv
  by_cases hb : (lex B n 0).2.2.1 = 259
  · rw [if_pos hb]
    have := a4 hb
    exact ⟨⟨hlex.1.1, hlex.1.2⟩, this.1, this.2, by rw [a1.2.2.2, h3]; omega, by rw [a1.2.2.2, h3]; omega⟩
  · rw [if_neg hb]
    obtain ⟨b1, b2, b3, b4⟩ := a5 hb
    exact ⟨⟨by show 0 ≤ (lex B n 0).1; omega, hlex.1.2, hb⟩, a3, b3, b2, b4, b1, ⟨by rw [a1.2.2.2, h3]; rfl, by show (0 : Nat) ≤ 160; omega⟩, fun k hk => absurd hk (Nat.not_lt_zero k)⟩
theorem RS.up29 {e : pE} {i v : Int} (ht : 0 ≤ t) (h : RS B n t e M) : RS B n t e (up M (29 + t.toNat) i v) := by
  obtain ⟨⟨s1, s2, s3, s4⟩, hc⟩ := h
  have e37 : up M (29 + t.toNat) i v 37 = M 37 := up_ne (by omega)
  have e20 : up M (29 + t.toNat) i v 20 = M 20 := up_ne (by omega)
  have ec : up M (29 + t.toNat) i v (22 + t).toNat = M (22 + t).toNat := up_ne (by omega)
  refine ⟨⟨by rw [e37]; exact s1, by rw [e37]; exact s2, by rw [e20]; exact s3, by rw [e37]; exact s4⟩, ?_⟩
  cases e with
  | error p => unfold RSc at *; rw [e37]; exact hc
  | ok x => unfold RSc at *; rw [e37, ec]; exact hc
theorem RS.used {e : pE} (h : RS B n t e M) {y : pT} (hy : e = .ok y) : M 37 3 = (pcd y).length := by
  subst hy
  exact h.2.2.2.2.2.2.2.1.1
/-- a stage: k sections are read -/
def SI (B : Int → Int) (n t : Int) (M : fM) (k : Nat) (N : fM) : Prop := RS B n t (rdP B n k) N ∧ (∀ c, c ≠ 37 → c ≠ 22 + t.toNat → c ≠ 29 + t.toNat → N c = M c) ∧ ((∃ y, rdP B n k = .ok y) → 0 < k → ∀ j : Nat, j ≤ k → N (29 + t.toNat) j = ln (rdP B n j))
theorem ln_ok {e : pE} {y : pT} (h : e = .ok y) : ln e = (pcd y).length := by subst h; rfl
theorem SI.step {N1 N3 N5 : fM} {k : Nat} (ht : 0 ≤ t ∧ t < 6) (hn : 0 ≤ n) (h : SI B n t M k N) (h1 : RS B n t (eb (rdP B n k) (expc B n (260 + k))) N1 ∧ rF t N N1) (h3 : RS B n t (rdZ B n (rdP B n k) k) N3 ∧ rF t (up N1 (29 + t.toNat) k (N1 37 3)) N3) (h5 : RS B n t (rdP B n (k + 1)) N5 ∧ rF t (up N3 (29 + t.toNat) (k + 1) (N3 37 3)) N5) : SI B n t M (k + 1) N5 := by
  obtain ⟨g1, g2, g3⟩ := h
  have e22 : (22 + t).toNat = 22 + t.toNat := by omega
  have f1 : ∀ c, c ≠ 37 → c ≠ 22 + t.toNat → N1 c = N c := fun c a b => h1.2.1 c a (by omega)
  have f3 : ∀ c, c ≠ 37 → c ≠ 22 + t.toNat → N3 c = (up N1 (29 + t.toNat) k (N1 37 3)) c := fun c a b => h3.2.1 c a (by omega)
  have f5 : ∀ c, c ≠ 37 → c ≠ 22 + t.toNat → N5 c = (up N3 (29 + t.toNat) (k + 1) (N3 37 3)) c := fun c a b => h5.2.1 c a (by omega)
  refine ⟨h5.1, fun c a b e => by rw [f5 c a b, up_ne e, f3 c a b, up_ne e, f1 c a b, g2 c a b e], ?_⟩
  rintro ⟨y, hy⟩ _ j hj
  obtain ⟨y0, z, q1, q2, q3, q4, q5, q6, _⟩ := rdW_wf (k := (k : Int)) (by omega) hy (rdP_we hn k)
  obtain ⟨u, q7, q8⟩ := eb_inv q2
  have q9 : eb (rdP B n k) (expc B n (260 + k)) = .ok u := q7
  rw [q1] at q7
  have q10 := (expc_ok (by omega) q3 q7).2.2.1
  have l1 : N1 37 3 = ln (rdP B n k) := by rw [h1.1.used q9, q10, ln_ok q1]
  have l3 : N3 37 3 = ln (rdP B n (k + 1)) := by rw [h3.1.used q2, ← q6, ln_ok hy]
  rw [f5 _ (by omega) (by omega), up_app]
  by_cases hj1 : j = k + 1
  · rw [if_pos ⟨rfl, by omega⟩, l3, hj1]
  · rw [if_neg (fun q => by have := q.2; omega), f3 _ (by omega) (by omega), up_app]
    by_cases hj2 : j = k
    · rw [if_pos ⟨rfl, by omega⟩, l1, hj2]
    · rw [if_neg (fun q => by have := q.2; omega), f1 _ (by omega) (by omega)]
      exact g3 ⟨y0, q1⟩ (by omega) j (by omega)
theorem slc_of {C : Int → Int} {s : List Int} {a : Int} (h : ∀ i : Nat, i < s.length → C (a + i) = s.getD i 0) : ∀ m : Nat, m ≤ s.length → slc C a m = s.take m
  | 0, _ => by simp [slc]
  | m + 1, hm => by
    show slc C a m ++ [C (a + m)] = _
    rw [slc_of h m (by omega), h m (by omega), List.take_add_one]
    congr 1
    rw [List.getD_eq_getElem?_getD, List.getElem?_eq_getElem (by omega)]
    rfl
/-- a text that is read: what its code says -/
theorem SI.tx (ht : 0 ≤ t ∧ t < 6) (hn : 0 ≤ n ∧ n ≤ 160) (h : SI B n t M 3 N) {y : pT} (hy : rdP B n 3 = .ok y) : ∀ k : Int, 0 ≤ k → k ≤ 2 → TXs N t k (vtx B n k) := by
  obtain ⟨g1, -, g3⟩ := h
  have g3 := g3 ⟨y, hy⟩ (by omega)
  have e22 : (22 + t).toNat = 22 + t.toNat := by omega
  rw [hy] at g1
  have hc := g1.2.2.2.2.2.2.2.2
  rw [e22] at hc
  have hlen := g1.2.2.2.2.2.2.2.1.2
  obtain ⟨y2, z2, q1, q2, q3, q4, q5, q6, s2, q7, q8⟩ := rdW_wf (k := ((2 : Nat) : Int)) (by omega) hy (rdP_we hn.1 2)
  obtain ⟨y1, z1, r1, r2, r3, r4, r5, r6, s1, r7, r8⟩ := rdW_wf (k := ((1 : Nat) : Int)) (by omega) q1 (rdP_we hn.1 1)
  obtain ⟨y0, z0, p1, p2, p3, p4, p5, p6, s0, p7, p8⟩ := rdW_wf (k := ((0 : Nat) : Int)) (by omega) r1 (rdP_we hn.1 0)
  have e0 : pcd y0 = [] := (rd0_wf hn.1 p1).2
  have a0 := g3 0 (by omega)
  have a1 := g3 1 (by omega)
  have a2 := g3 2 (by omega)
  have a3 := g3 3 (by omega)
  rw [ln_ok p1] at a0
  rw [ln_ok r1] at a1
  rw [ln_ok q1] at a2
  rw [ln_ok hy] at a3
  have c1 : pcd y1 = s0 := by rw [p6, p7, e0]; rfl
  have c2 : pcd y2 = s0 ++ s1 := by rw [r6, r7, c1]
  have c3 : pcd y = s0 ++ s1 ++ s2 := by rw [q6, q7, c2]
  rw [e0] at a0
  rw [c1] at a1
  rw [c2, List.length_append] at a2
  rw [c3, List.length_append, List.length_append] at a3
  rw [c3] at hc hlen
  rw [List.length_append, List.length_append] at hc hlen
  have hl0 : (([] : List Int).length : Int) = 0 := rfl
  rw [hl0] at a0
  have mk : ∀ (k : Int) (a m : Nat) (s : List Int) (v : pV), N (29 + t.toNat) k = a → N (29 + t.toNat) (k + 1) = a + m → s.length = m → a + m ≤ 160 → (∀ i : Nat, i < m → N (22 + t.toNat) (a + i) = s.getD i 0) → Sg s v → TXs N t k v := fun k a m s v b1 b2 b3 b4 b5 b6 => by
    refine ⟨⟨by omega, by omega, by omega⟩, ?_⟩
    rw [b1, b2, show ((a : Int) + m - a).toNat = m by omega, slc_of (by rw [b3]; exact b5) m (by omega), ← b3, List.take_length]
    exact b6
  intro k k0 k2
  rcases (show k = 0 ∨ k = 1 ∨ k = 2 by omega) with e | e | e
  · subst e
    have hv : vtx B n 0 = pv z0 := by
      have : rdZ B n (rdP B n (0 : Int).toNat) 0 = .ok z0 := p2
      unfold vtx; rw [this]
    rw [hv]
    refine mk 0 0 s0.length s0 _ a0 (by rw [show (0 : Int) + 1 = ((1 : Nat) : Int) by omega, a1]; omega) rfl (by omega) (fun i hi => ?_) p8
    rw [show ((0 : Nat) : Int) + i = i by omega, hc i (by omega)]
    simp only [List.getD_eq_getElem?_getD]
    rw [List.append_assoc, List.getElem?_append_left (by omega)]
  · subst e
    have hv : vtx B n 1 = pv z1 := by
      have : rdZ B n (rdP B n (1 : Int).toNat) 1 = .ok z1 := r2
      unfold vtx; rw [this]
    rw [hv]
    refine mk 1 s0.length s1.length s1 _ a1 (by rw [show (1 : Int) + 1 = ((2 : Nat) : Int) by omega, a2]; omega) rfl (by omega) (fun i hi => ?_) r8
    rw [show (s0.length : Int) + i = ((s0.length + i : Nat) : Int) by omega, hc _ (by omega)]
    simp only [List.getD_eq_getElem?_getD]
    rw [List.append_assoc, List.getElem?_append_right (by omega), List.getElem?_append_left (by omega), show s0.length + i - s0.length = i by omega]
  · subst e
    have hv : vtx B n 2 = pv z2 := by
      have : rdZ B n (rdP B n (2 : Int).toNat) 2 = .ok z2 := q2
      unfold vtx; rw [this]
    rw [hv]
    refine mk 2 (s0.length + s1.length) s2.length s2 _ (by exact a2) (by rw [show (2 : Int) + 1 = ((3 : Nat) : Int) by omega, a3]; omega) rfl (by omega) (fun i hi => ?_) q8
    rw [show ((s0.length + s1.length : Nat) : Int) + i = ((s0.length + s1.length + i : Nat) : Int) by omega, hc _ (by omega)]
    simp only [List.getD_eq_getElem?_getD]
    rw [List.getElem?_append_right (by rw [List.length_append]; omega), List.length_append, show s0.length + s1.length + i - (s0.length + s1.length) = i by omega]
def rdQ (B : Int → Int) (n t : Int) (M : fM) (r : Int) (K : fM) : Prop := (∀ c, c ≠ 37 → c ≠ 22 + t.toNat → c ≠ 29 + t.toNat → K c = M c) ∧ ((∃ p, rdF B n = .error p ∧ (0 ≤ p ∧ p ≤ n) ∧ r = p) ∨ ((∃ y, rdF B n = .ok y) ∧ r = -1 ∧ ∀ k : Int, 0 ≤ k → k ≤ 2 → TXs K t k (vtx B n k)))
theorem rd3_P : rd3 B n = rdP B n 3 := rfl
theorem SI.good (ht : 0 ≤ t ∧ t < 6) (hn : 0 ≤ n ∧ n ≤ 160) (h : SI B n t M 3 N) (h6 : N 37 6 = 258) : rdQ B n t M (N 37 8) N := by
  obtain ⟨y, hy, hk, _⟩ := h.1.ok h6 (by decide)
  refine ⟨h.2.1, Or.inr ⟨⟨y, ?_⟩, ?_, h.tx ht hn hy⟩⟩
  · unfold rdF
    rw [rd3_P, hy]
    show rdE y = _
    unfold rdE
    rw [if_pos hk]
  · have h1 := h.1
    rw [hy] at h1
    exact h1.2.2.2.2.2.2.1
theorem SI.bad (ht : 0 ≤ t) (h : SI B n t M 3 N) (h6 : N 37 6 ≠ 258) (hK : RS B n t (eb (rdP B n 3) fun x => .error (pat x)) K ∧ rF t N K) : rdQ B n t M (K 37 8) K := by
  have e22 : (22 + t).toNat = 22 + t.toNat := by omega
  refine ⟨fun c a b e => by rw [hK.2.1 c a (by omega), h.2.1 c a b e], Or.inl ?_⟩
  have h1 := hK.1
  have hF : rdF B n = eb (rdP B n 3) fun x => .error (pat x) := by
    unfold rdF
    rw [rd3_P]
    rcases h.1.tk with ⟨_, p, z⟩ | ⟨_, y, z, g2⟩
    · rw [z]; rfl
    · rw [z]
      show rdE y = _
      unfold rdE
      rw [if_neg (by omega)]; rfl
  rw [hF]
  cases hE : eb (rdP B n 3) fun x => .error (pat x) with
  | error p =>
    rw [hE] at h1
    exact ⟨p, rfl, h1.2.1, h1.2.2.1⟩
  | ok y =>
    exfalso
    obtain ⟨z, _, h2⟩ := eb_inv hE
    cases h2
end Rd
theorem expc_we {B : Int → Int} {n w : Int} {e : pE} (hW : WE n e) (hw : w ≠ 258 := by omega) : WE n (eb e (expc B n w)) := fun y hy => by
  obtain ⟨x, h1, h2⟩ := eb_inv hy
  exact (expc_ok hw (hW x h1) h2).1
set_option maxRecDepth 20000 in
set_option maxHeartbeats 4000000 in
theorem t_X2_read {X : fX} {M : fM} {B : Int → Int} {n t : Int} {d : Nat} (ht : 0 ≤ t ∧ t < 6) (hn : 0 ≤ n ∧ n ≤ 160) (hB : M 20 = B) : fC X (d + 50) mX2_read [.ref (xa X 37), .int (iv n), .ref (xa X (22 + t.toNat)), .ref (xa X (29 + t.toNat))] M (QI fun r K => rdQ B n t M r K) := by
  have hl22 := lay22 ht
  refine fC.of (L := [_, _, _, _, _]) (by decide +kernel) rfl (Nat.le_of_ble_eq_true rfl) (fun Z hZ hR => ?_)
  refine f_aload_n hZ dX2_read_0 rfl ?_
  refine f_aload_n hZ dX2_read_1 rfl ?_
  refine pX2_37 hZ dX2_read_2 rfl (by first | omega | (simp only [up_app, Nat.reduceEqDiff, Int.reduceEq, and_true, true_and, and_self, and_false, false_and, if_true, if_false, reduceIte]; omega)) ?_
  refine f_aload_n hZ dX2_read_5 rfl ?_
  refine f_iload_n hZ dX2_read_6 rfl ?_
  refine f_aload_n hZ dX2_read_7 rfl ?_
  refine gX2_33 hZ dX2_read_8 ?_
  refine f_alen hZ dX2_read_11 (by first | exact hl22.2.2.1 | rfl) (by first | exact hl22.2.2.2 | rfl) ?_
  refine f_min hZ dX2_read_12 wk_X2_40 (by first | omega | (simp only [up_app, Nat.reduceEqDiff, Int.reduceEq, and_true, true_and, and_self, and_false, false_and, if_true, if_false, reduceIte]; omega)) (by first | omega | (simp only [up_app, Nat.reduceEqDiff, Int.reduceEq, and_true, true_and, and_self, and_false, false_and, if_true, if_false, reduceIte]; omega)) (Nat.le_of_ble_eq_true rfl) ?_
  rw [show min n ((160 : Nat) : Int) = n by omega]
  refine pX2_9 hZ dX2_read_15 (by first | omega | (simp only [up_app, Nat.reduceEqDiff, Int.reduceEq, and_true, true_and, and_self, and_false, false_and, if_true, if_false, reduceIte]; omega)) ?_
  refine f_aload_n hZ dX2_read_18 rfl ?_
  refine f_iconst hZ dX2_read_19 ?_
  refine pX2_15 hZ dX2_read_20 (by first | omega | (simp only [up_app, Nat.reduceEqDiff, Int.reduceEq, and_true, true_and, and_self, and_false, false_and, if_true, if_false, reduceIte]; omega)) ?_
  refine f_aload_n hZ dX2_read_23 rfl ?_
  refine f_iconst hZ dX2_read_24 ?_
  refine pX2_21 hZ dX2_read_25 (by first | omega | (simp only [up_app, Nat.reduceEqDiff, Int.reduceEq, and_true, true_and, and_self, and_false, false_and, if_true, if_false, reduceIte]; omega)) ?_
  refine f_aload_n hZ dX2_read_28 rfl ?_
  refine f_iconst hZ dX2_read_29 ?_
  refine pX2_30 hZ dX2_read_30 (by first | omega | (simp only [up_app, Nat.reduceEqDiff, Int.reduceEq, and_true, true_and, and_self, and_false, false_and, if_true, if_false, reduceIte]; omega)) ?_
  refine f_aload_n hZ dX2_read_33 rfl ?_
  refine vX2_46 hZ dX2_read_34 (t_X2_advance (by show 0 ≤ (0 : Int) ∧ (0 : Int) ≤ n ∧ n ≤ 160; omega)) (fun M34 h34 => ?_)
  have hS0 : SI B n t M 0 M34 := by
    rcases h34 with ⟨q, _⟩ | ⟨_, q⟩
    · exact absurd rfl q
    · have hs := RS_start (B := B) (n := n) (t := t) ⟨by show ((22 + t.toNat : Nat) : Int) = 22 + t; omega, ht⟩ ⟨rfl, hn⟩ (by rw [up_ne (by decide), up_ne (by decide), up_ne (by decide), up_ne (by decide), up_ne (by decide)]; exact hB) rfl rfl q
      exact ⟨hs.1, fun c a b e => by rw [hs.2.1 c a (by omega), up_ne a, up_ne a, up_ne a, up_ne a, up_ne a], fun _ z => absurd z (by omega)⟩
  refine f_iconst hZ dX2_read_37 ?_
  refine f_istore (L' := [_, _, _, _, _]) hZ dX2_read_38 rfl rfl ?_
  refine f_iload hZ dX2_read_40 rfl ?_
  refine f_iconst hZ dX2_read_42 ?_
  refine f_ige (tgt := 100) hZ dX2_read_43 rfl (by first | omega | (simp only [up_app, Nat.reduceEqDiff, Int.reduceEq, and_true, true_and, and_self, and_false, false_and, if_true, if_false, reduceIte]; omega)) (by first | omega | (simp only [up_app, Nat.reduceEqDiff, Int.reduceEq, and_true, true_and, and_self, and_false, false_and, if_true, if_false, reduceIte]; omega)) (fun h43 => ?_) (fun h43 => ?_)
  · exfalso; omega
  · refine f_iload hZ dX2_read_46 rfl ?_
    refine f_iconst hZ dX2_read_48 ?_
    refine f_iadd hZ dX2_read_49 ?_
    refine f_aload_n hZ dX2_read_50 rfl ?_
    refine f_alen hZ dX2_read_51 (by first | exact hl22.2.2.1 | rfl) (by first | exact hl22.2.2.2 | rfl) ?_
    refine f_ige (tgt := 100) hZ dX2_read_52 rfl (by first | omega | (simp only [up_app, Nat.reduceEqDiff, Int.reduceEq, and_true, true_and, and_self, and_false, false_and, if_true, if_false, reduceIte]; omega)) (by first | omega | (simp only [up_app, Nat.reduceEqDiff, Int.reduceEq, and_true, true_and, and_self, and_false, false_and, if_true, if_false, reduceIte]; omega)) (fun h52 => ?_) (fun h52 => ?_)
    · exfalso; omega
    · refine f_aload_n hZ dX2_read_55 rfl ?_
      refine f_sipush hZ dX2_read_56 ?_
      refine f_iload hZ dX2_read_59 rfl ?_
      refine f_iadd hZ dX2_read_61 ?_
      refine vX2_49 hZ dX2_read_62 (t_X2_expect (w := 260 + ((0 : Nat) : Int)) (by omega) hS0.1) (fun M62 h62 => ?_)
      have hE0 := h62
      refine f_aload_n hZ dX2_read_65 rfl ?_
      refine f_iload hZ dX2_read_66 rfl ?_
      refine f_aload_n hZ dX2_read_68 rfl ?_
      refine gX2_15 hZ dX2_read_69 (fun r69 => ?_)
      try simp only [up_app, Nat.reduceEqDiff, Int.reduceEq, and_true, true_and, and_self, and_false, false_and, if_true, if_false, reduceIte] at r69 ⊢
      refine f_iastore hZ dX2_read_72 (by first | exact hl22.2.2.1 | rfl) (by first | exact hl22.2.2.2 | rfl) (by first | omega | (simp only [up_app, Nat.reduceEqDiff, Int.reduceEq, and_true, true_and, and_self, and_false, false_and, if_true, if_false, reduceIte]; omega)) (by first | omega | (simp only [up_app, Nat.reduceEqDiff, Int.reduceEq, and_true, true_and, and_self, and_false, false_and, if_true, if_false, reduceIte]; omega)) (by first | omega | (simp only [up_app, Nat.reduceEqDiff, Int.reduceEq, and_true, true_and, and_self, and_false, false_and, if_true, if_false, reduceIte]; omega)) ?_
      refine f_aload_n hZ dX2_read_73 rfl ?_
      refine f_iconst hZ dX2_read_74 ?_
      refine vX2_53 hZ dX2_read_75 ((t_X2_all (X := X) (B := B) (t := t) hn.2 5 0 rfl (by omega) d).2.2 _ _ (hE0.1.up29 ht.1) (expc_we (rdP_we hn.1 0))) (fun M75 h75 => ?_)
      have hZ0 := h75
      refine f_aload_n hZ dX2_read_78 rfl ?_
      refine f_iload hZ dX2_read_79 rfl ?_
      refine f_iconst hZ dX2_read_81 ?_
      refine f_iadd hZ dX2_read_82 ?_
      refine f_aload_n hZ dX2_read_83 rfl ?_
      refine gX2_15 hZ dX2_read_84 (fun r84 => ?_)
      try simp only [up_app, Nat.reduceEqDiff, Int.reduceEq, and_true, true_and, and_self, and_false, false_and, if_true, if_false, reduceIte] at r84 ⊢
      refine f_iastore hZ dX2_read_87 (by first | exact hl22.2.2.1 | rfl) (by first | exact hl22.2.2.2 | rfl) (by first | omega | (simp only [up_app, Nat.reduceEqDiff, Int.reduceEq, and_true, true_and, and_self, and_false, false_and, if_true, if_false, reduceIte]; omega)) (by first | omega | (simp only [up_app, Nat.reduceEqDiff, Int.reduceEq, and_true, true_and, and_self, and_false, false_and, if_true, if_false, reduceIte]; omega)) (by first | omega | (simp only [up_app, Nat.reduceEqDiff, Int.reduceEq, and_true, true_and, and_self, and_false, false_and, if_true, if_false, reduceIte]; omega)) ?_
      refine f_aload_n hZ dX2_read_88 rfl ?_
      refine f_bipush hZ dX2_read_89 ?_
      refine vX2_49 hZ dX2_read_91 (t_X2_expect (by omega) (hZ0.1.up29 ht.1)) (fun M91 h91 => ?_)
      have hS1 := hS0.step ht hn.1 hE0 hZ0 h91
      refine f_iinc (L' := [_, _, _, _, _]) hZ dX2_read_94 rfl rfl ?_
      refine f_goto (tgt := 40) hZ dX2_read_97 rfl ?_
      refine f_iload hZ dX2_read_40 rfl ?_
      refine f_iconst hZ dX2_read_42 ?_
      refine f_ige (tgt := 100) hZ dX2_read_43 rfl (by first | omega | (simp only [up_app, Nat.reduceEqDiff, Int.reduceEq, and_true, true_and, and_self, and_false, false_and, if_true, if_false, reduceIte]; omega)) (by first | omega | (simp only [up_app, Nat.reduceEqDiff, Int.reduceEq, and_true, true_and, and_self, and_false, false_and, if_true, if_false, reduceIte]; omega)) (fun h43 => ?_) (fun h43 => ?_)
      · exfalso; omega
      · refine f_iload hZ dX2_read_46 rfl ?_
        refine f_iconst hZ dX2_read_48 ?_
        refine f_iadd hZ dX2_read_49 ?_
        refine f_aload_n hZ dX2_read_50 rfl ?_
        refine f_alen hZ dX2_read_51 (by first | exact hl22.2.2.1 | rfl) (by first | exact hl22.2.2.2 | rfl) ?_
        refine f_ige (tgt := 100) hZ dX2_read_52 rfl (by first | omega | (simp only [up_app, Nat.reduceEqDiff, Int.reduceEq, and_true, true_and, and_self, and_false, false_and, if_true, if_false, reduceIte]; omega)) (by first | omega | (simp only [up_app, Nat.reduceEqDiff, Int.reduceEq, and_true, true_and, and_self, and_false, false_and, if_true, if_false, reduceIte]; omega)) (fun h52 => ?_) (fun h52 => ?_)
        · exfalso; omega
        · refine f_aload_n hZ dX2_read_55 rfl ?_
          refine f_sipush hZ dX2_read_56 ?_
          refine f_iload hZ dX2_read_59 rfl ?_
          refine f_iadd hZ dX2_read_61 ?_
          refine vX2_49 hZ dX2_read_62 (t_X2_expect (w := 260 + ((1 : Nat) : Int)) (by omega) hS1.1) (fun M62 h62 => ?_)
          have hE1 := h62
          refine f_aload_n hZ dX2_read_65 rfl ?_
          refine f_iload hZ dX2_read_66 rfl ?_
          refine f_aload_n hZ dX2_read_68 rfl ?_
          refine gX2_15 hZ dX2_read_69 (fun r69 => ?_)
          try simp only [up_app, Nat.reduceEqDiff, Int.reduceEq, and_true, true_and, and_self, and_false, false_and, if_true, if_false, reduceIte] at r69 ⊢
          refine f_iastore hZ dX2_read_72 (by first | exact hl22.2.2.1 | rfl) (by first | exact hl22.2.2.2 | rfl) (by first | omega | (simp only [up_app, Nat.reduceEqDiff, Int.reduceEq, and_true, true_and, and_self, and_false, false_and, if_true, if_false, reduceIte]; omega)) (by first | omega | (simp only [up_app, Nat.reduceEqDiff, Int.reduceEq, and_true, true_and, and_self, and_false, false_and, if_true, if_false, reduceIte]; omega)) (by first | omega | (simp only [up_app, Nat.reduceEqDiff, Int.reduceEq, and_true, true_and, and_self, and_false, false_and, if_true, if_false, reduceIte]; omega)) ?_
          refine f_aload_n hZ dX2_read_73 rfl ?_
          refine f_iconst hZ dX2_read_74 ?_
          refine vX2_53 hZ dX2_read_75 ((t_X2_all (X := X) (B := B) (t := t) hn.2 5 0 rfl (by omega) d).2.2 _ _ (hE1.1.up29 ht.1) (expc_we (rdP_we hn.1 1))) (fun M75 h75 => ?_)
          have hZ1 := h75
          refine f_aload_n hZ dX2_read_78 rfl ?_
          refine f_iload hZ dX2_read_79 rfl ?_
          refine f_iconst hZ dX2_read_81 ?_
          refine f_iadd hZ dX2_read_82 ?_
          refine f_aload_n hZ dX2_read_83 rfl ?_
          refine gX2_15 hZ dX2_read_84 (fun r84 => ?_)
          try simp only [up_app, Nat.reduceEqDiff, Int.reduceEq, and_true, true_and, and_self, and_false, false_and, if_true, if_false, reduceIte] at r84 ⊢
          refine f_iastore hZ dX2_read_87 (by first | exact hl22.2.2.1 | rfl) (by first | exact hl22.2.2.2 | rfl) (by first | omega | (simp only [up_app, Nat.reduceEqDiff, Int.reduceEq, and_true, true_and, and_self, and_false, false_and, if_true, if_false, reduceIte]; omega)) (by first | omega | (simp only [up_app, Nat.reduceEqDiff, Int.reduceEq, and_true, true_and, and_self, and_false, false_and, if_true, if_false, reduceIte]; omega)) (by first | omega | (simp only [up_app, Nat.reduceEqDiff, Int.reduceEq, and_true, true_and, and_self, and_false, false_and, if_true, if_false, reduceIte]; omega)) ?_
          refine f_aload_n hZ dX2_read_88 rfl ?_
          refine f_bipush hZ dX2_read_89 ?_
          refine vX2_49 hZ dX2_read_91 (t_X2_expect (by omega) (hZ1.1.up29 ht.1)) (fun M91 h91 => ?_)
          have hS2 := hS1.step ht hn.1 hE1 hZ1 h91
          refine f_iinc (L' := [_, _, _, _, _]) hZ dX2_read_94 rfl rfl ?_
          refine f_goto (tgt := 40) hZ dX2_read_97 rfl ?_
          refine f_iload hZ dX2_read_40 rfl ?_
          refine f_iconst hZ dX2_read_42 ?_
          refine f_ige (tgt := 100) hZ dX2_read_43 rfl (by first | omega | (simp only [up_app, Nat.reduceEqDiff, Int.reduceEq, and_true, true_and, and_self, and_false, false_and, if_true, if_false, reduceIte]; omega)) (by first | omega | (simp only [up_app, Nat.reduceEqDiff, Int.reduceEq, and_true, true_and, and_self, and_false, false_and, if_true, if_false, reduceIte]; omega)) (fun h43 => ?_) (fun h43 => ?_)
          · exfalso; omega
          · refine f_iload hZ dX2_read_46 rfl ?_
            refine f_iconst hZ dX2_read_48 ?_
            refine f_iadd hZ dX2_read_49 ?_
            refine f_aload_n hZ dX2_read_50 rfl ?_
            refine f_alen hZ dX2_read_51 (by first | exact hl22.2.2.1 | rfl) (by first | exact hl22.2.2.2 | rfl) ?_
            refine f_ige (tgt := 100) hZ dX2_read_52 rfl (by first | omega | (simp only [up_app, Nat.reduceEqDiff, Int.reduceEq, and_true, true_and, and_self, and_false, false_and, if_true, if_false, reduceIte]; omega)) (by first | omega | (simp only [up_app, Nat.reduceEqDiff, Int.reduceEq, and_true, true_and, and_self, and_false, false_and, if_true, if_false, reduceIte]; omega)) (fun h52 => ?_) (fun h52 => ?_)
            · exfalso; omega
            · refine f_aload_n hZ dX2_read_55 rfl ?_
              refine f_sipush hZ dX2_read_56 ?_
              refine f_iload hZ dX2_read_59 rfl ?_
              refine f_iadd hZ dX2_read_61 ?_
              refine vX2_49 hZ dX2_read_62 (t_X2_expect (w := 260 + ((2 : Nat) : Int)) (by omega) hS2.1) (fun M62 h62 => ?_)
              have hE2 := h62
              refine f_aload_n hZ dX2_read_65 rfl ?_
              refine f_iload hZ dX2_read_66 rfl ?_
              refine f_aload_n hZ dX2_read_68 rfl ?_
              refine gX2_15 hZ dX2_read_69 (fun r69 => ?_)
              try simp only [up_app, Nat.reduceEqDiff, Int.reduceEq, and_true, true_and, and_self, and_false, false_and, if_true, if_false, reduceIte] at r69 ⊢
              refine f_iastore hZ dX2_read_72 (by first | exact hl22.2.2.1 | rfl) (by first | exact hl22.2.2.2 | rfl) (by first | omega | (simp only [up_app, Nat.reduceEqDiff, Int.reduceEq, and_true, true_and, and_self, and_false, false_and, if_true, if_false, reduceIte]; omega)) (by first | omega | (simp only [up_app, Nat.reduceEqDiff, Int.reduceEq, and_true, true_and, and_self, and_false, false_and, if_true, if_false, reduceIte]; omega)) (by first | omega | (simp only [up_app, Nat.reduceEqDiff, Int.reduceEq, and_true, true_and, and_self, and_false, false_and, if_true, if_false, reduceIte]; omega)) ?_
              refine f_aload_n hZ dX2_read_73 rfl ?_
              refine f_iconst hZ dX2_read_74 ?_
              refine vX2_53 hZ dX2_read_75 ((t_X2_all (X := X) (B := B) (t := t) hn.2 5 0 rfl (by omega) d).2.2 _ _ (hE2.1.up29 ht.1) (expc_we (rdP_we hn.1 2))) (fun M75 h75 => ?_)
              have hZ2 := h75
              refine f_aload_n hZ dX2_read_78 rfl ?_
              refine f_iload hZ dX2_read_79 rfl ?_
              refine f_iconst hZ dX2_read_81 ?_
              refine f_iadd hZ dX2_read_82 ?_
              refine f_aload_n hZ dX2_read_83 rfl ?_
              refine gX2_15 hZ dX2_read_84 (fun r84 => ?_)
              try simp only [up_app, Nat.reduceEqDiff, Int.reduceEq, and_true, true_and, and_self, and_false, false_and, if_true, if_false, reduceIte] at r84 ⊢
              refine f_iastore hZ dX2_read_87 (by first | exact hl22.2.2.1 | rfl) (by first | exact hl22.2.2.2 | rfl) (by first | omega | (simp only [up_app, Nat.reduceEqDiff, Int.reduceEq, and_true, true_and, and_self, and_false, false_and, if_true, if_false, reduceIte]; omega)) (by first | omega | (simp only [up_app, Nat.reduceEqDiff, Int.reduceEq, and_true, true_and, and_self, and_false, false_and, if_true, if_false, reduceIte]; omega)) (by first | omega | (simp only [up_app, Nat.reduceEqDiff, Int.reduceEq, and_true, true_and, and_self, and_false, false_and, if_true, if_false, reduceIte]; omega)) ?_
              refine f_aload_n hZ dX2_read_88 rfl ?_
              refine f_bipush hZ dX2_read_89 ?_
              refine vX2_49 hZ dX2_read_91 (t_X2_expect (by omega) (hZ2.1.up29 ht.1)) (fun M91 h91 => ?_)
              have hS3 := hS2.step ht hn.1 hE2 hZ2 h91
              refine f_iinc (L' := [_, _, _, _, _]) hZ dX2_read_94 rfl rfl ?_
              refine f_goto (tgt := 40) hZ dX2_read_97 rfl ?_
              refine f_iload hZ dX2_read_40 rfl ?_
              refine f_iconst hZ dX2_read_42 ?_
              refine f_ige (tgt := 100) hZ dX2_read_43 rfl (by first | omega | (simp only [up_app, Nat.reduceEqDiff, Int.reduceEq, and_true, true_and, and_self, and_false, false_and, if_true, if_false, reduceIte]; omega)) (by first | omega | (simp only [up_app, Nat.reduceEqDiff, Int.reduceEq, and_true, true_and, and_self, and_false, false_and, if_true, if_false, reduceIte]; omega)) (fun h43 => ?_) (fun h43 => ?_)
              · refine f_aload_n hZ dX2_read_100 rfl ?_
                refine gX2_24 hZ dX2_read_101 (fun r101 => ?_)
                try simp only [up_app, Nat.reduceEqDiff, Int.reduceEq, and_true, true_and, and_self, and_false, false_and, if_true, if_false, reduceIte] at r101 ⊢
                refine f_sipush hZ dX2_read_104 ?_
                refine f_ieq (tgt := 114) hZ dX2_read_107 rfl (by first | omega | (simp only [up_app, Nat.reduceEqDiff, Int.reduceEq, and_true, true_and, and_self, and_false, false_and, if_true, if_false, reduceIte]; omega)) (by first | omega | (simp only [up_app, Nat.reduceEqDiff, Int.reduceEq, and_true, true_and, and_self, and_false, false_and, if_true, if_false, reduceIte]; omega)) (fun h107 => ?_) (fun h107 => ?_)
                · refine f_aload_n hZ dX2_read_114 rfl ?_
                  refine gX2_30 hZ dX2_read_115 (fun r115 => ?_)
                  try simp only [up_app, Nat.reduceEqDiff, Int.reduceEq, and_true, true_and, and_self, and_false, false_and, if_true, if_false, reduceIte] at r115 ⊢
                  exact f_retI hZ hR dX2_read_118 rfl (by first | omega | (simp only [up_app, Nat.reduceEqDiff, Int.reduceEq, and_true, true_and, and_self, and_false, false_and, if_true, if_false, reduceIte]; omega)) (by first | exact hS3.good ht hn h107 | exact hS3.bad ht.1 h107 h111)
                · refine f_aload_n hZ dX2_read_110 rfl ?_
                  refine vX2_56 hZ dX2_read_111 (c_fail hS3.1) (fun M111 h111 => ?_)
                  refine f_aload_n hZ dX2_read_114 rfl ?_
                  refine gX2_30 hZ dX2_read_115 (fun r115 => ?_)
                  try simp only [up_app, Nat.reduceEqDiff, Int.reduceEq, and_true, true_and, and_self, and_false, false_and, if_true, if_false, reduceIte] at r115 ⊢
                  exact f_retI hZ hR dX2_read_118 rfl (by first | omega | (simp only [up_app, Nat.reduceEqDiff, Int.reduceEq, and_true, true_and, and_self, and_false, false_and, if_true, if_false, reduceIte]; omega)) (by first | exact hS3.good ht hn h107 | exact hS3.bad ht.1 h107 h111)
              · exfalso; omega

def tkQ (M : fM) (r : Int) (K : fM) : Prop := (M 19 7 = 6 ∧ r = -4 ∧ K = M) ∨ (M 19 7 < 6 ∧ K 19 6 = 0 ∧ (∀ c, c ≠ 19 → c ≠ 37 → c ≠ 22 + (M 19 7).toNat → c ≠ 29 + (M 19 7).toNat → K c = M c) ∧ ((∃ p, rdF (M 20) (M 19 6) = .error p ∧ (0 ≤ p ∧ p ≤ M 19 6) ∧ r = -100 - p ∧ K 19 7 = M 19 7) ∨ ((∃ y, rdF (M 20) (M 19 6) = .ok y) ∧ r = M 19 7 ∧ K 19 7 = M 19 7 + 1 ∧ ∀ k : Int, 0 ≤ k → k ≤ 2 → TXs K (M 19 7) k (vtx (M 20) (M 19 6) k))))
theorem rdQ.take {M K N : fM} {r : Int} (h7 : 1 ≤ M 19 7 ∧ M 19 7 < 6) (h : rdQ (M 20) (M 19 6) (M 19 7) M r K) (hN : ∀ c, c ≠ 19 → N c = K c) (h6 : N 19 6 = 0) (hr : (0 ≤ r ∧ N 19 7 = K 19 7) ∨ (r < 0 ∧ N 19 7 = K 19 7 + 1)) : tkQ M (if 0 ≤ r then -100 - r else M 19 7) N := by
  obtain ⟨h1, h2⟩ := h
  have e19 : K 19 = M 19 := h1 19 (by omega) (by omega) (by omega)
  refine Or.inr ⟨h7.2, h6, fun c a b d e => by rw [hN c a, h1 c b d e], ?_⟩
  rcases h2 with ⟨p, p1, p2, p3⟩ | ⟨y, y1, y2⟩
  · subst p3
    rw [if_pos p2.1]
    exact Or.inl ⟨r, p1, p2, rfl, by rw [e19] at hr; omega⟩
  · subst y1
    rw [if_neg (by omega)]
    exact Or.inr ⟨y, rfl, by rw [e19] at hr; omega, fun k a b => TXs_congr (by omega) (fun c c1 c2 => hN c (by omega)) (y2 k a b)⟩
set_option maxRecDepth 20000 in
set_option maxHeartbeats 4000000 in
theorem t_X5_take {X : fX} {M : fM} {d : Nat} (h7 : 1 ≤ M 19 7 ∧ M 19 7 ≤ 6) (hn : 0 ≤ M 19 6 ∧ M 19 6 ≤ 160) : fC X (d + 51) mX5_take [.ref (xa X 19)] M (QI fun r K => tkQ M r K) := by
  refine fC.of (L := [_, _]) (by decide +kernel) rfl (Nat.le_of_ble_eq_true rfl) (fun Z hZ hR => ?_)
  refine f_aload_n hZ dX5_take_0 rfl ?_
  refine gX5_44 hZ dX5_take_1 (fun r1 => ?_)
  refine f_bipush hZ dX5_take_4 ?_
  refine f_ilt (tgt := 12) hZ dX5_take_6 rfl (by omega) (by omega) (fun h6 => ?_) (fun h6 => ?_)
  · refine f_aload_n hZ dX5_take_12 rfl ?_
    refine gX5_36 hZ dX5_take_13 ?_
    refine f_aload_n hZ dX5_take_16 rfl ?_
    refine gX5_40 hZ dX5_take_17 (fun r17 => ?_)
    refine f_aload_n hZ dX5_take_20 rfl ?_
    refine gX5_17 hZ dX5_take_21 ?_
    refine f_aload_n hZ dX5_take_24 rfl ?_
    refine gX5_44 hZ dX5_take_25 (fun r25 => ?_)
    refine f_aaload hZ dX5_take_28 rfl rfl (by omega) (by omega) ?_
    refine f_aload_n hZ dX5_take_29 rfl ?_
    refine gX5_20 hZ dX5_take_30 ?_
    refine f_aload_n hZ dX5_take_33 rfl ?_
    refine gX5_44 hZ dX5_take_34 (fun r34 => ?_)
    refine f_aaload hZ dX5_take_37 rfl rfl (by omega) (by omega) ?_
    refine vX5_47 hZ dX5_take_38 (t_X2_read (B := M 20) (n := M 19 6) (t := M 19 7) (by omega) hn rfl) (fun a38 M38 r38 h38 => ?_)
    have e19 : M38 19 = M 19 := h38.1 19 (by omega) (by omega) (by omega)
    have hr38 : -1 ≤ a38 ∧ a38 ≤ 160 := by
      rcases h38.2 with ⟨p, _, p2, p3⟩ | ⟨_, y1, _⟩ <;> omega
    refine f_istore_n (L' := [_, _]) hZ dX5_take_41 rfl rfl ?_
    refine f_aload_n hZ dX5_take_42 rfl ?_
    refine f_iconst hZ dX5_take_43 ?_
    refine pX5_40 hZ dX5_take_44 (by omega) ?_
    refine f_iload_n hZ dX5_take_47 rfl ?_
    refine f_lt (tgt := 56) hZ dX5_take_48 rfl (by omega) (fun h48 => ?_) (fun h48 => ?_)
    · refine f_aload_n hZ dX5_take_56 rfl ?_
      refine f_dup hZ dX5_take_57 rfl ?_
      refine gX5_44 hZ dX5_take_58 (fun r58 => ?_)
      try simp only [up_app, Nat.reduceEqDiff, Int.reduceEq, and_true, true_and, and_self, and_false, false_and, if_true, if_false, reduceIte, e19] at r58 ⊢
      refine f_iconst hZ dX5_take_61 ?_
      refine f_iadd hZ dX5_take_62 ?_
      refine pX5_44 hZ dX5_take_63 (by omega) ?_
      refine f_aload_n hZ dX5_take_66 rfl ?_
      refine gX5_44 hZ dX5_take_67 (fun r67 => ?_)
      try simp only [up_app, Nat.reduceEqDiff, Int.reduceEq, and_true, true_and, and_self, and_false, false_and, if_true, if_false, reduceIte, e19] at r67 ⊢
      refine f_iconst hZ dX5_take_70 ?_
      refine f_isub hZ dX5_take_71 ?_
      exact f_retI hZ hR dX5_take_72 rfl (by omega) (by have hh := h38.take (N := up (up M38 19 6 0) 19 7 (M38 19 7 + 1)) (by omega) (fun c hc => by rw [up_ne hc, up_ne hc]) rfl (Or.inr ⟨by omega, rfl⟩); rw [if_neg (by omega)] at hh; rw [e19] at hh; rw [show M 19 7 + 1 - 1 = M 19 7 by omega]; exact hh)
    · refine f_bipush hZ dX5_take_51 ?_
      refine f_iload_n hZ dX5_take_53 rfl ?_
      refine f_isub hZ dX5_take_54 ?_
      exact f_retI hZ hR dX5_take_55 rfl (by omega) (by have hh := h38.take (N := up M38 19 6 0) (by omega) (fun c hc => up_ne hc) rfl (Or.inl ⟨by omega, rfl⟩); rw [if_pos (by omega)] at hh; exact hh)
  · refine f_bipush hZ dX5_take_9 ?_
    exact f_retI hZ hR dX5_take_11 rfl (by omega) (by exact Or.inl ⟨by omega, rfl, rfl⟩)

set_option maxRecDepth 20000 in
set_option maxHeartbeats 4000000 in
theorem t_X6_text {X : fX} {M : fM} {d : Nat} (h7 : 1 ≤ M 19 7 ∧ M 19 7 ≤ 6) (hn : 0 ≤ M 19 6 ∧ M 19 6 ≤ 160) : fC X (d + 52) mX6_text [.ref (xa X 0)] M (QI fun r K => tkQ M r K) := by
  refine fC.of (L := [_]) (by decide +kernel) rfl (Nat.le_of_ble_eq_true rfl) (fun Z hZ hR => ?_)
  refine f_aload_n hZ dX6_text_0 rfl ?_
  refine gX6_25 hZ dX6_text_1 ?_
  refine vX6_119 hZ dX6_text_4 (t_X5_take h7 hn) (fun a4 M4 r4 h4 => ?_)
  exact f_retI hZ hR dX6_text_7 rfl (by omega) (by exact h4)

