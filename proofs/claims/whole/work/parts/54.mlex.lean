/-! the model's reader: bytes, tokens -/
/-- where it reads: text t, n bytes, B -/
def mB (B : Int → Int) (n t : Int) (M : fM) : Prop := (M 59 21 = 160 * t ∧ 0 ≤ t ∧ t < 6) ∧ (M 59 22 = n ∧ 0 ≤ n ∧ n ≤ 160) ∧ (∀ i, 0 ≤ i → i < n → M 60 (160 * t + i) = B i) ∧ (∀ i, 0 ≤ i → i < n → 0 ≤ B i ∧ B i ≤ 255)
def byZ (B : Int → Int) (n i : Int) : Int := if i < n then B i else -1
def nxF (M N : fM) : Prop := (∀ c, c ≠ 59 → N c = M c) ∧ ∀ k, k ≠ 23 → k ≠ 24 → k ≠ 25 → k ≠ 26 → N 59 k = M 59 k
theorem nxF.refl {M : fM} : nxF M M := ⟨fun _ _ => rfl, fun _ _ _ _ _ => rfl⟩
theorem nxF.up {M N : fM} {i v : Int} (h : nxF M N) (hi : i = 23 ∨ i = 24 ∨ i = 25 ∨ i = 26) : nxF M (up N 59 i v) := ⟨fun c hc => by rw [up_ne hc, h.1 c hc], fun k a b c e => by rw [up_app, if_neg (by omega)]; exact h.2 k a b c e⟩
theorem mB.nx {B : Int → Int} {n t : Int} {M N : fM} (h : mB B n t M) (hn : nxF M N) : mB B n t N := by
  obtain ⟨h1, h2, h3, h4⟩ := h
  exact ⟨by rw [hn.2 21 (by decide) (by decide) (by decide) (by decide)]; exact h1, by rw [hn.2 22 (by decide) (by decide) (by decide) (by decide)]; exact h2, by rw [hn.1 60 (by decide)]; exact h3, h4⟩
theorem byZ_rg {B : Int → Int} {n t i : Int} {M : fM} (h : mB B n t M) (h0 : 0 ≤ i) : -1 ≤ byZ B n i ∧ byZ B n i ≤ 255 ∧ (byZ B n i = -1 ↔ n ≤ i) ∧ (i < n → byZ B n i = B i) := by
  unfold byZ
  by_cases hi : i < n
  · rw [if_pos hi]
    have := h.2.2.2 i h0 hi
    exact ⟨by omega, by omega, by omega, fun _ => rfl⟩
  · rw [if_neg hi]
    exact ⟨by omega, by omega, by omega, fun q => absurd q hi⟩
set_option maxRecDepth 20000 in
set_option maxHeartbeats 4000000 in
theorem t_X7_byteAt {X : fX} {M : fM} {d : Nat} {B : Int → Int} {n t i : Int} (hB : mB B n t M) (hi : 0 ≤ i ∧ i < 2147483648) : fC X d mX7_byteAt [.ref (xa X 59), .int (iv i)] M (QI fun r M' => M' = M ∧ r = byZ B n i) := by
  refine fC.of (L := [_, _]) (by decide +kernel) rfl (Nat.le_of_ble_eq_true rfl) (fun Z hZ hR => ?_)
  obtain ⟨⟨hb1, ht⟩, ⟨hb2, hn⟩, h3, -⟩ := hB
  refine f_iload_n hZ dX7_byteAt_0 rfl ?_
  refine f_aload_n hZ dX7_byteAt_1 rfl ?_
  refine gX7_154 hZ dX7_byteAt_2 (fun r2 => ?_)
  refine f_ige (tgt := 22) hZ dX7_byteAt_5 rfl (by omega) (by omega) (fun h5 => ?_) (fun h5 => ?_)
  · refine f_iconst hZ dX7_byteAt_22 ?_
    exact f_retI hZ hR dX7_byteAt_23 rfl (by omega) (by refine ⟨rfl, ?_⟩; unfold byZ; first | (rw [if_pos (by omega), hb1]; exact h3 i (by omega) (by omega)) | rw [if_neg (by omega)])
  · refine f_aload_n hZ dX7_byteAt_8 rfl ?_
    refine gX7_13 hZ dX7_byteAt_9 ?_
    refine f_aload_n hZ dX7_byteAt_12 rfl ?_
    refine gX7_157 hZ dX7_byteAt_13 (fun r13 => ?_)
    refine f_iload_n hZ dX7_byteAt_16 rfl ?_
    refine f_iadd hZ dX7_byteAt_17 ?_
    refine f_iaload hZ dX7_byteAt_18 (by first | rfl | exact hC.t1 | exact hC.t2 | exact hC.t3 | exact hC.t4 | exact hC.t5) (by first | rfl | exact hC.l1 | exact hC.l2 | exact hC.l3 | exact hC.l4 | exact hC.l5) (by omega) (by omega) (fun r18 => ?_)
    refine f_goto (tgt := 23) hZ dX7_byteAt_19 rfl ?_
    exact f_retI hZ hR dX7_byteAt_23 rfl (by omega) (by refine ⟨rfl, ?_⟩; unfold byZ; first | (rw [if_pos (by omega), hb1]; exact h3 i (by omega) (by omega)) | rw [if_neg (by omega)])

set_option maxRecDepth 20000 in
set_option maxHeartbeats 4000000 in
theorem t_X7_fail {X : fX} {M : fM} {d : Nat} : fC X d mX7_fail [.ref (xa X 59)] M (QV fun M' => (M 59 28 = 0 ∧ M' = up (up M 59 28 1) 59 29 (M 59 25)) ∨ (M 59 28 ≠ 0 ∧ M' = M)) := by
  refine fC.of (L := [_]) (by decide +kernel) rfl (Nat.le_of_ble_eq_true rfl) (fun Z hZ hR => ?_)
  refine f_aload_n hZ dX7_fail_0 rfl ?_
  refine gX7_187 hZ dX7_fail_1 (fun r1 => ?_)
  try simp only [up_app, Nat.reduceEqDiff, Int.reduceEq, and_true, true_and, and_self, and_false, false_and, if_true, if_false, reduceIte] at r1 ⊢
  refine f_ne (tgt := 20) hZ dX7_fail_4 rfl (by omega) (fun h4 => ?_) (fun h4 => ?_)
  · exact f_retV hZ hR dX7_fail_20 rfl (by first | exact Or.inl ⟨by omega, rfl⟩ | exact Or.inr ⟨by omega, rfl⟩)
  · refine f_aload_n hZ dX7_fail_7 rfl ?_
    refine f_iconst hZ dX7_fail_8 ?_
    refine pX7_187 hZ dX7_fail_9 (by omega) ?_
    refine f_aload_n hZ dX7_fail_12 rfl ?_
    refine f_aload_n hZ dX7_fail_13 rfl ?_
    refine gX7_167 hZ dX7_fail_14 (fun r14 => ?_)
    try simp only [up_app, Nat.reduceEqDiff, Int.reduceEq, and_true, true_and, and_self, and_false, false_and, if_true, if_false, reduceIte] at r14 ⊢
    refine pX7_191 hZ dX7_fail_17 (by omega) ?_
    exact f_retV hZ hR dX7_fail_20 rfl (by first | exact Or.inl ⟨by omega, rfl⟩ | exact Or.inr ⟨by omega, rfl⟩)

def Lq (B : Int → Int) (a x i l : Int) : Prop := (a + i < x ∧ B (a + i) = l) ∨ (¬ a + i < x ∧ l = 0)
set_option maxRecDepth 20000 in
set_option maxHeartbeats 4000000 in
theorem t_X7_isLetter {X : fX} {M : fM} {d : Nat} {B : Int → Int} {n t i l : Int} (hB : mB B n t M) (ha : 0 ≤ M 59 25 ∧ M 59 25 ≤ 160) (hx : M 59 23 ≤ n) (hi : 0 ≤ i ∧ i ≤ 7) (hl : rg l) : fC X (d + 1) mX7_isLetter [.ref (xa X 59), .int (iv i), .int (iv l)] M (QI fun r M' => M' = M ∧ bz r (Lq B (M 59 25) (M 59 23) i l)) := by
  refine fC.of (L := [_, _, _]) (by decide +kernel) rfl (Nat.le_of_ble_eq_true rfl) (fun Z hZ hR => ?_)
  refine f_aload_n hZ dX7_isLetter_0 rfl ?_
  refine gX7_167 hZ dX7_isLetter_1 (fun r1 => ?_)
  refine f_iload_n hZ dX7_isLetter_4 rfl ?_
  refine f_iadd hZ dX7_isLetter_5 ?_
  refine f_aload_n hZ dX7_isLetter_6 rfl ?_
  refine gX7_160 hZ dX7_isLetter_7 (fun r7 => ?_)
  refine f_ige (tgt := 35) hZ dX7_isLetter_10 rfl (by omega) (by omega) (fun h10 => ?_) (fun h10 => ?_)
  · refine f_iload_n hZ dX7_isLetter_35 rfl ?_
    refine f_ne (tgt := 43) hZ dX7_isLetter_36 rfl (by omega) (fun h36 => ?_) (fun h36 => ?_)
    · refine f_iconst hZ dX7_isLetter_43 ?_
      exact f_retZ hZ hR dX7_isLetter_44 rfl (by omega) (by refine ⟨rfl, ?_⟩; unfold Lq; omega)
    · refine f_iconst hZ dX7_isLetter_39 ?_
      refine f_goto (tgt := 44) hZ dX7_isLetter_40 rfl ?_
      exact f_retZ hZ hR dX7_isLetter_44 rfl (by omega) (by refine ⟨rfl, ?_⟩; unfold Lq; omega)
  · refine f_aload_n hZ dX7_isLetter_13 rfl ?_
    refine f_aload_n hZ dX7_isLetter_14 rfl ?_
    refine gX7_167 hZ dX7_isLetter_15 (fun r15 => ?_)
    refine f_iload_n hZ dX7_isLetter_18 rfl ?_
    refine f_iadd hZ dX7_isLetter_19 ?_
    refine vX7_163 hZ dX7_isLetter_20 (t_X7_byteAt hB (by omega)) (fun a20 M20 r20 h20 => ?_)
    obtain ⟨e20, h20⟩ := h20
    replace e20 := e20.symm
    subst e20
    have hbr := byZ_rg hB (i := M 59 25 + i) (by omega)
    have hb4 := hbr.2.2.2 (by omega)
    refine f_iload_n hZ dX7_isLetter_23 rfl ?_
    refine f_ine (tgt := 31) hZ dX7_isLetter_24 rfl (by omega) (by omega) (fun h24 => ?_) (fun h24 => ?_)
    · refine f_iconst hZ dX7_isLetter_31 ?_
      refine f_goto (tgt := 44) hZ dX7_isLetter_32 rfl ?_
      exact f_retZ hZ hR dX7_isLetter_44 rfl (by omega) (by refine ⟨rfl, ?_⟩; unfold Lq; omega)
    · refine f_iconst hZ dX7_isLetter_27 ?_
      refine f_goto (tgt := 44) hZ dX7_isLetter_28 rfl ?_
      exact f_retZ hZ hR dX7_isLetter_44 rfl (by omega) (by refine ⟨rfl, ?_⟩; unfold Lq; omega)

set_option maxRecDepth 20000 in
set_option maxHeartbeats 4000000 in
theorem t_X7_isWord {X : fX} {M : fM} {d : Nat} {B : Int → Int} {n t a b c e f g h l : Int} (hB : mB B n t M) (ha : 0 ≤ M 59 25 ∧ M 59 25 ≤ 160) (hx : M 59 23 ≤ n) (ha0 : rg a) (hb0 : rg b) (hc0 : rg c) (he0 : rg e) (hf0 : rg f) (hg0 : rg g) (hh0 : rg h) (hl0 : rg l) : fC X (d + 2) mX7_isWord [.ref (xa X 59), .int (iv a), .int (iv b), .int (iv c), .int (iv e), .int (iv f), .int (iv g), .int (iv h), .int (iv l)] M (QI fun r M' => M' = M ∧ bz r (M 59 28 = 0 ∧ M 59 24 = 1 ∧ M 59 23 ≤ M 59 25 + 8 ∧ Lq B (M 59 25) (M 59 23) 0 a ∧ Lq B (M 59 25) (M 59 23) 1 b ∧ Lq B (M 59 25) (M 59 23) 2 c ∧ Lq B (M 59 25) (M 59 23) 3 e ∧ Lq B (M 59 25) (M 59 23) 4 f ∧ Lq B (M 59 25) (M 59 23) 5 g ∧ Lq B (M 59 25) (M 59 23) 6 h ∧ Lq B (M 59 25) (M 59 23) 7 l)) := by
  refine fC.of (L := [_, _, _, _, _, _, _, _, _]) (by decide +kernel) rfl (Nat.le_of_ble_eq_true rfl) (fun Z hZ hR => ?_)
  refine f_aload_n hZ dX7_isWord_0 rfl ?_
  refine gX7_187 hZ dX7_isWord_1 (fun r1 => ?_)
  refine f_ne (tgt := 112) hZ dX7_isWord_4 rfl (by omega) (fun h4 => ?_) (fun h4 => ?_)
  · refine f_iconst hZ dX7_isWord_112 ?_
    exact f_retZ hZ hR dX7_isWord_113 rfl (by omega) (by first | exact ⟨rfl, Or.inl ⟨rfl, by omega, by omega, by omega, hz_t q0 (by omega), hz_t q1 (by omega), hz_t q2 (by omega), hz_t q3 (by omega), hz_t q4 (by omega), hz_t q5 (by omega), hz_t q6 (by omega), hz_t q7 (by omega)⟩⟩ | exact ⟨rfl, Or.inr ⟨rfl, fun z => hz_f q0 (by omega) z.2.2.2.1⟩⟩ | exact ⟨rfl, Or.inr ⟨rfl, fun z => hz_f q1 (by omega) z.2.2.2.2.1⟩⟩ | exact ⟨rfl, Or.inr ⟨rfl, fun z => hz_f q2 (by omega) z.2.2.2.2.2.1⟩⟩ | exact ⟨rfl, Or.inr ⟨rfl, fun z => hz_f q3 (by omega) z.2.2.2.2.2.2.1⟩⟩ | exact ⟨rfl, Or.inr ⟨rfl, fun z => hz_f q4 (by omega) z.2.2.2.2.2.2.2.1⟩⟩ | exact ⟨rfl, Or.inr ⟨rfl, fun z => hz_f q5 (by omega) z.2.2.2.2.2.2.2.2.1⟩⟩ | exact ⟨rfl, Or.inr ⟨rfl, fun z => hz_f q6 (by omega) z.2.2.2.2.2.2.2.2.2.1⟩⟩ | exact ⟨rfl, Or.inr ⟨rfl, fun z => hz_f q7 (by omega) z.2.2.2.2.2.2.2.2.2.2⟩⟩ | exact ⟨rfl, Or.inr ⟨rfl, fun z => by have z1 := z.1; have z2 := z.2.1; have z3 := z.2.2.1; clear z; omega⟩⟩)
  · refine f_aload_n hZ dX7_isWord_7 rfl ?_
    refine gX7_170 hZ dX7_isWord_8 (fun r8 => ?_)
    refine f_iconst hZ dX7_isWord_11 ?_
    refine f_ine (tgt := 112) hZ dX7_isWord_12 rfl (by omega) (by omega) (fun h12 => ?_) (fun h12 => ?_)
    · refine f_iconst hZ dX7_isWord_112 ?_
      exact f_retZ hZ hR dX7_isWord_113 rfl (by omega) (by first | exact ⟨rfl, Or.inl ⟨rfl, by omega, by omega, by omega, hz_t q0 (by omega), hz_t q1 (by omega), hz_t q2 (by omega), hz_t q3 (by omega), hz_t q4 (by omega), hz_t q5 (by omega), hz_t q6 (by omega), hz_t q7 (by omega)⟩⟩ | exact ⟨rfl, Or.inr ⟨rfl, fun z => hz_f q0 (by omega) z.2.2.2.1⟩⟩ | exact ⟨rfl, Or.inr ⟨rfl, fun z => hz_f q1 (by omega) z.2.2.2.2.1⟩⟩ | exact ⟨rfl, Or.inr ⟨rfl, fun z => hz_f q2 (by omega) z.2.2.2.2.2.1⟩⟩ | exact ⟨rfl, Or.inr ⟨rfl, fun z => hz_f q3 (by omega) z.2.2.2.2.2.2.1⟩⟩ | exact ⟨rfl, Or.inr ⟨rfl, fun z => hz_f q4 (by omega) z.2.2.2.2.2.2.2.1⟩⟩ | exact ⟨rfl, Or.inr ⟨rfl, fun z => hz_f q5 (by omega) z.2.2.2.2.2.2.2.2.1⟩⟩ | exact ⟨rfl, Or.inr ⟨rfl, fun z => hz_f q6 (by omega) z.2.2.2.2.2.2.2.2.2.1⟩⟩ | exact ⟨rfl, Or.inr ⟨rfl, fun z => hz_f q7 (by omega) z.2.2.2.2.2.2.2.2.2.2⟩⟩ | exact ⟨rfl, Or.inr ⟨rfl, fun z => by have z1 := z.1; have z2 := z.2.1; have z3 := z.2.2.1; clear z; omega⟩⟩)
    · refine f_aload_n hZ dX7_isWord_15 rfl ?_
      refine gX7_160 hZ dX7_isWord_16 (fun r16 => ?_)
      refine f_aload_n hZ dX7_isWord_19 rfl ?_
      refine gX7_167 hZ dX7_isWord_20 (fun r20 => ?_)
      refine f_bipush hZ dX7_isWord_23 ?_
      refine f_iadd hZ dX7_isWord_25 ?_
      refine f_igt (tgt := 112) hZ dX7_isWord_26 rfl (by omega) (by omega) (fun h26 => ?_) (fun h26 => ?_)
      · refine f_iconst hZ dX7_isWord_112 ?_
        exact f_retZ hZ hR dX7_isWord_113 rfl (by omega) (by first | exact ⟨rfl, Or.inl ⟨rfl, by omega, by omega, by omega, hz_t q0 (by omega), hz_t q1 (by omega), hz_t q2 (by omega), hz_t q3 (by omega), hz_t q4 (by omega), hz_t q5 (by omega), hz_t q6 (by omega), hz_t q7 (by omega)⟩⟩ | exact ⟨rfl, Or.inr ⟨rfl, fun z => hz_f q0 (by omega) z.2.2.2.1⟩⟩ | exact ⟨rfl, Or.inr ⟨rfl, fun z => hz_f q1 (by omega) z.2.2.2.2.1⟩⟩ | exact ⟨rfl, Or.inr ⟨rfl, fun z => hz_f q2 (by omega) z.2.2.2.2.2.1⟩⟩ | exact ⟨rfl, Or.inr ⟨rfl, fun z => hz_f q3 (by omega) z.2.2.2.2.2.2.1⟩⟩ | exact ⟨rfl, Or.inr ⟨rfl, fun z => hz_f q4 (by omega) z.2.2.2.2.2.2.2.1⟩⟩ | exact ⟨rfl, Or.inr ⟨rfl, fun z => hz_f q5 (by omega) z.2.2.2.2.2.2.2.2.1⟩⟩ | exact ⟨rfl, Or.inr ⟨rfl, fun z => hz_f q6 (by omega) z.2.2.2.2.2.2.2.2.2.1⟩⟩ | exact ⟨rfl, Or.inr ⟨rfl, fun z => hz_f q7 (by omega) z.2.2.2.2.2.2.2.2.2.2⟩⟩ | exact ⟨rfl, Or.inr ⟨rfl, fun z => by have z1 := z.1; have z2 := z.2.1; have z3 := z.2.2.1; clear z; omega⟩⟩)
      · refine f_aload_n hZ dX7_isWord_29 rfl ?_
        refine f_iconst hZ dX7_isWord_30 ?_
        refine f_iload_n hZ dX7_isWord_31 rfl ?_
        refine vX7_194 hZ dX7_isWord_32 (t_X7_isLetter hB ha hx (by omega) (by omega)) (fun u0 M0 r0 q0 => ?_)
        obtain ⟨e0, q0⟩ := q0
        subst e0
        replace q0 : hz u0 _ := q0
        refine f_eq (tgt := 112) hZ dX7_isWord_35 rfl (by omega) (fun h35 => ?_) (fun h35 => ?_)
        · refine f_iconst hZ dX7_isWord_112 ?_
          exact f_retZ hZ hR dX7_isWord_113 rfl (by omega) (by first | exact ⟨rfl, Or.inl ⟨rfl, by omega, by omega, by omega, hz_t q0 (by omega), hz_t q1 (by omega), hz_t q2 (by omega), hz_t q3 (by omega), hz_t q4 (by omega), hz_t q5 (by omega), hz_t q6 (by omega), hz_t q7 (by omega)⟩⟩ | exact ⟨rfl, Or.inr ⟨rfl, fun z => hz_f q0 (by omega) z.2.2.2.1⟩⟩ | exact ⟨rfl, Or.inr ⟨rfl, fun z => hz_f q1 (by omega) z.2.2.2.2.1⟩⟩ | exact ⟨rfl, Or.inr ⟨rfl, fun z => hz_f q2 (by omega) z.2.2.2.2.2.1⟩⟩ | exact ⟨rfl, Or.inr ⟨rfl, fun z => hz_f q3 (by omega) z.2.2.2.2.2.2.1⟩⟩ | exact ⟨rfl, Or.inr ⟨rfl, fun z => hz_f q4 (by omega) z.2.2.2.2.2.2.2.1⟩⟩ | exact ⟨rfl, Or.inr ⟨rfl, fun z => hz_f q5 (by omega) z.2.2.2.2.2.2.2.2.1⟩⟩ | exact ⟨rfl, Or.inr ⟨rfl, fun z => hz_f q6 (by omega) z.2.2.2.2.2.2.2.2.2.1⟩⟩ | exact ⟨rfl, Or.inr ⟨rfl, fun z => hz_f q7 (by omega) z.2.2.2.2.2.2.2.2.2.2⟩⟩ | exact ⟨rfl, Or.inr ⟨rfl, fun z => by have z1 := z.1; have z2 := z.2.1; have z3 := z.2.2.1; clear z; omega⟩⟩)
        · refine f_aload_n hZ dX7_isWord_38 rfl ?_
          refine f_iconst hZ dX7_isWord_39 ?_
          refine f_iload_n hZ dX7_isWord_40 rfl ?_
          refine vX7_194 hZ dX7_isWord_41 (t_X7_isLetter hB ha hx (by omega) (by omega)) (fun u1 M1 r1 q1 => ?_)
          obtain ⟨e1, q1⟩ := q1
          subst e1
          replace q1 : hz u1 _ := q1
          refine f_eq (tgt := 112) hZ dX7_isWord_44 rfl (by omega) (fun h44 => ?_) (fun h44 => ?_)
          · refine f_iconst hZ dX7_isWord_112 ?_
            exact f_retZ hZ hR dX7_isWord_113 rfl (by omega) (by first | exact ⟨rfl, Or.inl ⟨rfl, by omega, by omega, by omega, hz_t q0 (by omega), hz_t q1 (by omega), hz_t q2 (by omega), hz_t q3 (by omega), hz_t q4 (by omega), hz_t q5 (by omega), hz_t q6 (by omega), hz_t q7 (by omega)⟩⟩ | exact ⟨rfl, Or.inr ⟨rfl, fun z => hz_f q0 (by omega) z.2.2.2.1⟩⟩ | exact ⟨rfl, Or.inr ⟨rfl, fun z => hz_f q1 (by omega) z.2.2.2.2.1⟩⟩ | exact ⟨rfl, Or.inr ⟨rfl, fun z => hz_f q2 (by omega) z.2.2.2.2.2.1⟩⟩ | exact ⟨rfl, Or.inr ⟨rfl, fun z => hz_f q3 (by omega) z.2.2.2.2.2.2.1⟩⟩ | exact ⟨rfl, Or.inr ⟨rfl, fun z => hz_f q4 (by omega) z.2.2.2.2.2.2.2.1⟩⟩ | exact ⟨rfl, Or.inr ⟨rfl, fun z => hz_f q5 (by omega) z.2.2.2.2.2.2.2.2.1⟩⟩ | exact ⟨rfl, Or.inr ⟨rfl, fun z => hz_f q6 (by omega) z.2.2.2.2.2.2.2.2.2.1⟩⟩ | exact ⟨rfl, Or.inr ⟨rfl, fun z => hz_f q7 (by omega) z.2.2.2.2.2.2.2.2.2.2⟩⟩ | exact ⟨rfl, Or.inr ⟨rfl, fun z => by have z1 := z.1; have z2 := z.2.1; have z3 := z.2.2.1; clear z; omega⟩⟩)
          · refine f_aload_n hZ dX7_isWord_47 rfl ?_
            refine f_iconst hZ dX7_isWord_48 ?_
            refine f_iload_n hZ dX7_isWord_49 rfl ?_
            refine vX7_194 hZ dX7_isWord_50 (t_X7_isLetter hB ha hx (by omega) (by omega)) (fun u2 M2 r2 q2 => ?_)
            obtain ⟨e2, q2⟩ := q2
            subst e2
            replace q2 : hz u2 _ := q2
            refine f_eq (tgt := 112) hZ dX7_isWord_53 rfl (by omega) (fun h53 => ?_) (fun h53 => ?_)
            · refine f_iconst hZ dX7_isWord_112 ?_
              exact f_retZ hZ hR dX7_isWord_113 rfl (by omega) (by first | exact ⟨rfl, Or.inl ⟨rfl, by omega, by omega, by omega, hz_t q0 (by omega), hz_t q1 (by omega), hz_t q2 (by omega), hz_t q3 (by omega), hz_t q4 (by omega), hz_t q5 (by omega), hz_t q6 (by omega), hz_t q7 (by omega)⟩⟩ | exact ⟨rfl, Or.inr ⟨rfl, fun z => hz_f q0 (by omega) z.2.2.2.1⟩⟩ | exact ⟨rfl, Or.inr ⟨rfl, fun z => hz_f q1 (by omega) z.2.2.2.2.1⟩⟩ | exact ⟨rfl, Or.inr ⟨rfl, fun z => hz_f q2 (by omega) z.2.2.2.2.2.1⟩⟩ | exact ⟨rfl, Or.inr ⟨rfl, fun z => hz_f q3 (by omega) z.2.2.2.2.2.2.1⟩⟩ | exact ⟨rfl, Or.inr ⟨rfl, fun z => hz_f q4 (by omega) z.2.2.2.2.2.2.2.1⟩⟩ | exact ⟨rfl, Or.inr ⟨rfl, fun z => hz_f q5 (by omega) z.2.2.2.2.2.2.2.2.1⟩⟩ | exact ⟨rfl, Or.inr ⟨rfl, fun z => hz_f q6 (by omega) z.2.2.2.2.2.2.2.2.2.1⟩⟩ | exact ⟨rfl, Or.inr ⟨rfl, fun z => hz_f q7 (by omega) z.2.2.2.2.2.2.2.2.2.2⟩⟩ | exact ⟨rfl, Or.inr ⟨rfl, fun z => by have z1 := z.1; have z2 := z.2.1; have z3 := z.2.2.1; clear z; omega⟩⟩)
            · refine f_aload_n hZ dX7_isWord_56 rfl ?_
              refine f_iconst hZ dX7_isWord_57 ?_
              refine f_iload hZ dX7_isWord_58 rfl ?_
              refine vX7_194 hZ dX7_isWord_60 (t_X7_isLetter hB ha hx (by omega) (by omega)) (fun u3 M3 r3 q3 => ?_)
              obtain ⟨e3, q3⟩ := q3
              subst e3
              replace q3 : hz u3 _ := q3
              refine f_eq (tgt := 112) hZ dX7_isWord_63 rfl (by omega) (fun h63 => ?_) (fun h63 => ?_)
              · refine f_iconst hZ dX7_isWord_112 ?_
                exact f_retZ hZ hR dX7_isWord_113 rfl (by omega) (by first | exact ⟨rfl, Or.inl ⟨rfl, by omega, by omega, by omega, hz_t q0 (by omega), hz_t q1 (by omega), hz_t q2 (by omega), hz_t q3 (by omega), hz_t q4 (by omega), hz_t q5 (by omega), hz_t q6 (by omega), hz_t q7 (by omega)⟩⟩ | exact ⟨rfl, Or.inr ⟨rfl, fun z => hz_f q0 (by omega) z.2.2.2.1⟩⟩ | exact ⟨rfl, Or.inr ⟨rfl, fun z => hz_f q1 (by omega) z.2.2.2.2.1⟩⟩ | exact ⟨rfl, Or.inr ⟨rfl, fun z => hz_f q2 (by omega) z.2.2.2.2.2.1⟩⟩ | exact ⟨rfl, Or.inr ⟨rfl, fun z => hz_f q3 (by omega) z.2.2.2.2.2.2.1⟩⟩ | exact ⟨rfl, Or.inr ⟨rfl, fun z => hz_f q4 (by omega) z.2.2.2.2.2.2.2.1⟩⟩ | exact ⟨rfl, Or.inr ⟨rfl, fun z => hz_f q5 (by omega) z.2.2.2.2.2.2.2.2.1⟩⟩ | exact ⟨rfl, Or.inr ⟨rfl, fun z => hz_f q6 (by omega) z.2.2.2.2.2.2.2.2.2.1⟩⟩ | exact ⟨rfl, Or.inr ⟨rfl, fun z => hz_f q7 (by omega) z.2.2.2.2.2.2.2.2.2.2⟩⟩ | exact ⟨rfl, Or.inr ⟨rfl, fun z => by have z1 := z.1; have z2 := z.2.1; have z3 := z.2.2.1; clear z; omega⟩⟩)
              · refine f_aload_n hZ dX7_isWord_66 rfl ?_
                refine f_iconst hZ dX7_isWord_67 ?_
                refine f_iload hZ dX7_isWord_68 rfl ?_
                refine vX7_194 hZ dX7_isWord_70 (t_X7_isLetter hB ha hx (by omega) (by omega)) (fun u4 M4 r4 q4 => ?_)
                obtain ⟨e4, q4⟩ := q4
                subst e4
                replace q4 : hz u4 _ := q4
                refine f_eq (tgt := 112) hZ dX7_isWord_73 rfl (by omega) (fun h73 => ?_) (fun h73 => ?_)
                · refine f_iconst hZ dX7_isWord_112 ?_
                  exact f_retZ hZ hR dX7_isWord_113 rfl (by omega) (by first | exact ⟨rfl, Or.inl ⟨rfl, by omega, by omega, by omega, hz_t q0 (by omega), hz_t q1 (by omega), hz_t q2 (by omega), hz_t q3 (by omega), hz_t q4 (by omega), hz_t q5 (by omega), hz_t q6 (by omega), hz_t q7 (by omega)⟩⟩ | exact ⟨rfl, Or.inr ⟨rfl, fun z => hz_f q0 (by omega) z.2.2.2.1⟩⟩ | exact ⟨rfl, Or.inr ⟨rfl, fun z => hz_f q1 (by omega) z.2.2.2.2.1⟩⟩ | exact ⟨rfl, Or.inr ⟨rfl, fun z => hz_f q2 (by omega) z.2.2.2.2.2.1⟩⟩ | exact ⟨rfl, Or.inr ⟨rfl, fun z => hz_f q3 (by omega) z.2.2.2.2.2.2.1⟩⟩ | exact ⟨rfl, Or.inr ⟨rfl, fun z => hz_f q4 (by omega) z.2.2.2.2.2.2.2.1⟩⟩ | exact ⟨rfl, Or.inr ⟨rfl, fun z => hz_f q5 (by omega) z.2.2.2.2.2.2.2.2.1⟩⟩ | exact ⟨rfl, Or.inr ⟨rfl, fun z => hz_f q6 (by omega) z.2.2.2.2.2.2.2.2.2.1⟩⟩ | exact ⟨rfl, Or.inr ⟨rfl, fun z => hz_f q7 (by omega) z.2.2.2.2.2.2.2.2.2.2⟩⟩ | exact ⟨rfl, Or.inr ⟨rfl, fun z => by have z1 := z.1; have z2 := z.2.1; have z3 := z.2.2.1; clear z; omega⟩⟩)
                · refine f_aload_n hZ dX7_isWord_76 rfl ?_
                  refine f_iconst hZ dX7_isWord_77 ?_
                  refine f_iload hZ dX7_isWord_78 rfl ?_
                  refine vX7_194 hZ dX7_isWord_80 (t_X7_isLetter hB ha hx (by omega) (by omega)) (fun u5 M5 r5 q5 => ?_)
                  obtain ⟨e5, q5⟩ := q5
                  subst e5
                  replace q5 : hz u5 _ := q5
                  refine f_eq (tgt := 112) hZ dX7_isWord_83 rfl (by omega) (fun h83 => ?_) (fun h83 => ?_)
                  · refine f_iconst hZ dX7_isWord_112 ?_
                    exact f_retZ hZ hR dX7_isWord_113 rfl (by omega) (by first | exact ⟨rfl, Or.inl ⟨rfl, by omega, by omega, by omega, hz_t q0 (by omega), hz_t q1 (by omega), hz_t q2 (by omega), hz_t q3 (by omega), hz_t q4 (by omega), hz_t q5 (by omega), hz_t q6 (by omega), hz_t q7 (by omega)⟩⟩ | exact ⟨rfl, Or.inr ⟨rfl, fun z => hz_f q0 (by omega) z.2.2.2.1⟩⟩ | exact ⟨rfl, Or.inr ⟨rfl, fun z => hz_f q1 (by omega) z.2.2.2.2.1⟩⟩ | exact ⟨rfl, Or.inr ⟨rfl, fun z => hz_f q2 (by omega) z.2.2.2.2.2.1⟩⟩ | exact ⟨rfl, Or.inr ⟨rfl, fun z => hz_f q3 (by omega) z.2.2.2.2.2.2.1⟩⟩ | exact ⟨rfl, Or.inr ⟨rfl, fun z => hz_f q4 (by omega) z.2.2.2.2.2.2.2.1⟩⟩ | exact ⟨rfl, Or.inr ⟨rfl, fun z => hz_f q5 (by omega) z.2.2.2.2.2.2.2.2.1⟩⟩ | exact ⟨rfl, Or.inr ⟨rfl, fun z => hz_f q6 (by omega) z.2.2.2.2.2.2.2.2.2.1⟩⟩ | exact ⟨rfl, Or.inr ⟨rfl, fun z => hz_f q7 (by omega) z.2.2.2.2.2.2.2.2.2.2⟩⟩ | exact ⟨rfl, Or.inr ⟨rfl, fun z => by have z1 := z.1; have z2 := z.2.1; have z3 := z.2.2.1; clear z; omega⟩⟩)
                  · refine f_aload_n hZ dX7_isWord_86 rfl ?_
                    refine f_bipush hZ dX7_isWord_87 ?_
                    refine f_iload hZ dX7_isWord_89 rfl ?_
                    refine vX7_194 hZ dX7_isWord_91 (t_X7_isLetter hB ha hx (by omega) (by omega)) (fun u6 M6 r6 q6 => ?_)
                    obtain ⟨e6, q6⟩ := q6
                    subst e6
                    replace q6 : hz u6 _ := q6
                    refine f_eq (tgt := 112) hZ dX7_isWord_94 rfl (by omega) (fun h94 => ?_) (fun h94 => ?_)
                    · refine f_iconst hZ dX7_isWord_112 ?_
                      exact f_retZ hZ hR dX7_isWord_113 rfl (by omega) (by first | exact ⟨rfl, Or.inl ⟨rfl, by omega, by omega, by omega, hz_t q0 (by omega), hz_t q1 (by omega), hz_t q2 (by omega), hz_t q3 (by omega), hz_t q4 (by omega), hz_t q5 (by omega), hz_t q6 (by omega), hz_t q7 (by omega)⟩⟩ | exact ⟨rfl, Or.inr ⟨rfl, fun z => hz_f q0 (by omega) z.2.2.2.1⟩⟩ | exact ⟨rfl, Or.inr ⟨rfl, fun z => hz_f q1 (by omega) z.2.2.2.2.1⟩⟩ | exact ⟨rfl, Or.inr ⟨rfl, fun z => hz_f q2 (by omega) z.2.2.2.2.2.1⟩⟩ | exact ⟨rfl, Or.inr ⟨rfl, fun z => hz_f q3 (by omega) z.2.2.2.2.2.2.1⟩⟩ | exact ⟨rfl, Or.inr ⟨rfl, fun z => hz_f q4 (by omega) z.2.2.2.2.2.2.2.1⟩⟩ | exact ⟨rfl, Or.inr ⟨rfl, fun z => hz_f q5 (by omega) z.2.2.2.2.2.2.2.2.1⟩⟩ | exact ⟨rfl, Or.inr ⟨rfl, fun z => hz_f q6 (by omega) z.2.2.2.2.2.2.2.2.2.1⟩⟩ | exact ⟨rfl, Or.inr ⟨rfl, fun z => hz_f q7 (by omega) z.2.2.2.2.2.2.2.2.2.2⟩⟩ | exact ⟨rfl, Or.inr ⟨rfl, fun z => by have z1 := z.1; have z2 := z.2.1; have z3 := z.2.2.1; clear z; omega⟩⟩)
                    · refine f_aload_n hZ dX7_isWord_97 rfl ?_
                      refine f_bipush hZ dX7_isWord_98 ?_
                      refine f_iload hZ dX7_isWord_100 rfl ?_
                      refine vX7_194 hZ dX7_isWord_102 (t_X7_isLetter hB ha hx (by omega) (by omega)) (fun u7 M7 r7 q7 => ?_)
                      obtain ⟨e7, q7⟩ := q7
                      subst e7
                      replace q7 : hz u7 _ := q7
                      refine f_eq (tgt := 112) hZ dX7_isWord_105 rfl (by omega) (fun h105 => ?_) (fun h105 => ?_)
                      · refine f_iconst hZ dX7_isWord_112 ?_
                        exact f_retZ hZ hR dX7_isWord_113 rfl (by omega) (by first | exact ⟨rfl, Or.inl ⟨rfl, by omega, by omega, by omega, hz_t q0 (by omega), hz_t q1 (by omega), hz_t q2 (by omega), hz_t q3 (by omega), hz_t q4 (by omega), hz_t q5 (by omega), hz_t q6 (by omega), hz_t q7 (by omega)⟩⟩ | exact ⟨rfl, Or.inr ⟨rfl, fun z => hz_f q0 (by omega) z.2.2.2.1⟩⟩ | exact ⟨rfl, Or.inr ⟨rfl, fun z => hz_f q1 (by omega) z.2.2.2.2.1⟩⟩ | exact ⟨rfl, Or.inr ⟨rfl, fun z => hz_f q2 (by omega) z.2.2.2.2.2.1⟩⟩ | exact ⟨rfl, Or.inr ⟨rfl, fun z => hz_f q3 (by omega) z.2.2.2.2.2.2.1⟩⟩ | exact ⟨rfl, Or.inr ⟨rfl, fun z => hz_f q4 (by omega) z.2.2.2.2.2.2.2.1⟩⟩ | exact ⟨rfl, Or.inr ⟨rfl, fun z => hz_f q5 (by omega) z.2.2.2.2.2.2.2.2.1⟩⟩ | exact ⟨rfl, Or.inr ⟨rfl, fun z => hz_f q6 (by omega) z.2.2.2.2.2.2.2.2.2.1⟩⟩ | exact ⟨rfl, Or.inr ⟨rfl, fun z => hz_f q7 (by omega) z.2.2.2.2.2.2.2.2.2.2⟩⟩ | exact ⟨rfl, Or.inr ⟨rfl, fun z => by have z1 := z.1; have z2 := z.2.1; have z3 := z.2.2.1; clear z; omega⟩⟩)
                      · refine f_iconst hZ dX7_isWord_108 ?_
                        refine f_goto (tgt := 113) hZ dX7_isWord_109 rfl ?_
                        exact f_retZ hZ hR dX7_isWord_113 rfl (by omega) (by first | exact ⟨rfl, Or.inl ⟨rfl, by omega, by omega, by omega, hz_t q0 (by omega), hz_t q1 (by omega), hz_t q2 (by omega), hz_t q3 (by omega), hz_t q4 (by omega), hz_t q5 (by omega), hz_t q6 (by omega), hz_t q7 (by omega)⟩⟩ | exact ⟨rfl, Or.inr ⟨rfl, fun z => hz_f q0 (by omega) z.2.2.2.1⟩⟩ | exact ⟨rfl, Or.inr ⟨rfl, fun z => hz_f q1 (by omega) z.2.2.2.2.1⟩⟩ | exact ⟨rfl, Or.inr ⟨rfl, fun z => hz_f q2 (by omega) z.2.2.2.2.2.1⟩⟩ | exact ⟨rfl, Or.inr ⟨rfl, fun z => hz_f q3 (by omega) z.2.2.2.2.2.2.1⟩⟩ | exact ⟨rfl, Or.inr ⟨rfl, fun z => hz_f q4 (by omega) z.2.2.2.2.2.2.2.1⟩⟩ | exact ⟨rfl, Or.inr ⟨rfl, fun z => hz_f q5 (by omega) z.2.2.2.2.2.2.2.2.1⟩⟩ | exact ⟨rfl, Or.inr ⟨rfl, fun z => hz_f q6 (by omega) z.2.2.2.2.2.2.2.2.2.1⟩⟩ | exact ⟨rfl, Or.inr ⟨rfl, fun z => hz_f q7 (by omega) z.2.2.2.2.2.2.2.2.2.2⟩⟩ | exact ⟨rfl, Or.inr ⟨rfl, fun z => by have z1 := z.1; have z2 := z.2.1; have z3 := z.2.2.1; clear z; omega⟩⟩)

/-- what a token looks like in the model -/
def tkM (B : Int → Int) (a tk vl : Int) (M : fM) : Prop := (tk = 258 ∧ M 59 24 = 0) ∨ (tk = 256 ∧ M 59 24 = 2 ∧ M 59 26 = vl) ∨ (M 59 24 = 1 ∧ wcl B a (M 59 23) = (tk, vl) ∧ a < M 59 23 ∧ ∀ j, a ≤ j → j < M 59 23 → bLt (B j)) ∨ (bSg tk ∧ M 59 24 = 3 ∧ M 59 26 = tk) ∨ (tk = 259 ∧ M 59 24 = 4)
def nxP (B : Int → Int) (n : Int) (M K : fM) : Prop := nxF M K ∧ (0 ≤ K 59 23 ∧ K 59 23 ≤ n) ∧ K 59 25 = (lex B n (M 59 23)).1 ∧ tkM B (lex B n (M 59 23)).1 (lex B n (M 59 23)).2.2.1 (lex B n (M 59 23)).2.2.2 K ∧ ((lex B n (M 59 23)).2.2.1 ≠ 258 → (lex B n (M 59 23)).2.2.1 ≠ 259 → K 59 23 = (lex B n (M 59 23)).2.1)
theorem nxP.of {B : Int → Int} {n a x tk v : Int} {M K : fM} (hl : lex B n (M 59 23) = (a, x, tk, v)) (h1 : nxF M K) (h2 : 0 ≤ K 59 23 ∧ K 59 23 ≤ n) (h3 : K 59 25 = a) (h4 : tkM B a tk v K) (h5 : tk ≠ 258 → tk ≠ 259 → K 59 23 = x) : nxP B n M K := by
  unfold nxP
  rw [hl]
  exact ⟨h1, h2, h3, h4, h5⟩
section Nx
variable {B : Int → Int} {n t a x : Int} {M N K : fM}
theorem nx_end (ha : a = bhd 0 B n (M 59 23)) (hi : 0 ≤ M 59 23 ∧ M 59 23 ≤ n) (h : n ≤ a) (h1 : nxF M K) (k25 : K 59 25 = n) (k24 : K 59 24 = 0) (k23 : K 59 23 = a) : nxP B n M K := by
  have hr := bhd_rg (q := 0) (B := B) hi.2
  rw [← ha] at hr
  refine nxP.of (a := a) (x := a) (tk := 258) (v := 0) (by unfold lex; rw [← ha, if_pos h]) h1 (by omega) (by omega) (Or.inl ⟨rfl, k24⟩) (fun q => absurd rfl q)
theorem nx_word (ha : a = bhd 0 B n (M 59 23)) (hi : 0 ≤ M 59 23 ∧ M 59 23 ≤ n) (h : ¬ n ≤ a) (hl : bLt (B a)) (hx : x = bhd 1 B n a) (h1 : nxF M K) (k25 : K 59 25 = a) (k24 : K 59 24 = 1) (k23 : K 59 23 = x) : nxP B n M K := by
  have hr := bhd_rg (q := 0) (B := B) hi.2
  rw [← ha] at hr
  have hr2 := bhd_rg (q := 1) (B := B) hr.2.1
  have g1 : bhd 1 B n a = bhd 1 B n (a + 1) := bhd_step (by omega) hl
  have g2 := (bhd_rg (q := 1) (B := B) (n := n) (i := a + 1) (by omega)).1
  rw [← hx] at hr2 g1
  refine nxP.of (a := a) (x := x) (tk := (wcl B a x).1) (v := (wcl B a x).2) (by unfold lex; rw [← ha, if_neg h, if_pos hl, ← hx]) h1 (by omega) k25 (Or.inr (Or.inr (Or.inl ⟨k24, by rw [k23], by omega, fun j a b => hr2.2.2.1 j a (by omega)⟩))) (fun _ _ => k23)
theorem nx_num (ha : a = bhd 0 B n (M 59 23)) (hi : 0 ≤ M 59 23 ∧ M 59 23 ≤ n) (h : ¬ n ≤ a) (hl : ¬ bLt (B a)) (hd : bDg (B a)) (hx : x = bhd 2 B n a) (h1 : nxF M K) (k25 : K 59 25 = a) (k24 : (4 < x - a ∧ K 59 24 = 4) ∨ (¬ 4 < x - a ∧ K 59 24 = 2 ∧ K 59 26 = nv B a (x - a).toNat)) (k23 : K 59 23 = x) : nxP B n M K := by
  have hr := bhd_rg (q := 0) (B := B) hi.2
  rw [← ha] at hr
  have hr2 := bhd_rg (q := 2) (B := B) hr.2.1
  rw [← hx] at hr2
  refine nxP.of (a := a) (x := x) (tk := if 4 < x - a then 259 else 256) (v := nv B a (x - a).toNat) (by unfold lex; rw [← ha, if_neg h, if_neg hl, if_pos hd, ← hx]) h1 (by omega) k25 ?_ (fun _ _ => k23)
  rcases k24 with ⟨q, e⟩ | ⟨q, e⟩
  · rw [if_pos q]; exact Or.inr (Or.inr (Or.inr (Or.inr ⟨rfl, e⟩)))
  · rw [if_neg q]; exact Or.inr (Or.inl ⟨rfl, e⟩)
theorem nx_sign (ha : a = bhd 0 B n (M 59 23)) (hi : 0 ≤ M 59 23 ∧ M 59 23 ≤ n) (h : ¬ n ≤ a) (hl : ¬ bLt (B a)) (hd : ¬ bDg (B a)) (hs : bSg (B a)) (h1 : nxF M K) (k25 : K 59 25 = a) (k24 : K 59 24 = 3) (k26 : K 59 26 = B a) (k23 : K 59 23 = a + 1) : nxP B n M K := by
  have hr := bhd_rg (q := 0) (B := B) hi.2
  rw [← ha] at hr
  exact nxP.of (a := a) (x := a + 1) (tk := B a) (v := 0) (by unfold lex; rw [← ha, if_neg h, if_neg hl, if_neg hd, if_pos hs]) h1 (by omega) k25 (Or.inr (Or.inr (Or.inr (Or.inl ⟨hs, k24, k26⟩)))) (fun _ _ => k23)
theorem nx_bad (ha : a = bhd 0 B n (M 59 23)) (hi : 0 ≤ M 59 23 ∧ M 59 23 ≤ n) (h : ¬ n ≤ a) (hl : ¬ bLt (B a)) (hd : ¬ bDg (B a)) (hs : ¬ bSg (B a)) (h1 : nxF M K) (k25 : K 59 25 = a) (k24 : K 59 24 = 4) (k23 : K 59 23 = a) : nxP B n M K := by
  have hr := bhd_rg (q := 0) (B := B) hi.2
  rw [← ha] at hr
  exact nxP.of (a := a) (x := a) (tk := 259) (v := 0) (by unfold lex; rw [← ha, if_neg h, if_neg hl, if_neg hd, if_neg hs]) h1 (by omega) k25 (Or.inr (Or.inr (Or.inr (Or.inr ⟨rfl, k24⟩)))) (fun _ q => absurd rfl q)
end Nx
set_option maxRecDepth 20000 in
set_option maxHeartbeats 4000000 in
theorem t_X7_next {X : fX} {M : fM} {d : Nat} {B : Int → Int} {n t : Int} (hB : mB B n t M) (hi : 0 ≤ M 59 23 ∧ M 59 23 ≤ n) : fC X (d + 1) mX7_next [.ref (xa X 59)] M (QV fun K => nxP B n M K) := by
  have hn0 := hB.2.1.2
  have hA := bhd_rg (q := 0) (B := B) hi.2
  refine fC.of (L := [_, _, _]) (by decide +kernel) rfl (Nat.le_of_ble_eq_true rfl) (fun Z hZ hR => ?_)
  generalize ha : bhd 0 B n (M 59 23) = a at hA
  replace ha := ha.symm
  have hA1 := hA.1
  have hA2 := hA.2.1
  clear hA
  have let1 : ∀ (m : Nat) (i : Int) (N : fM), i + m = n → a < i → nxF M N → N 59 25 = a → N 59 24 = 1 → N 59 23 = i → bLt (B a) → bhd 1 B n a = bhd 1 B n i → fG X mX7_next Z 100 [.ref (xa X 59), .null, .null] [] N := by
    intro m
    induction m with
    | zero =>
      intro i N him hai hF k25 k24 k23 hla hbh
      have hBN := hB.nx hF
      have hn := hBN.2.1.2
      have hN22 : N 59 22 = n := hBN.2.1.1
      refine f_aload_n hZ dX7_next_100 rfl ?_
      refine f_aload_n hZ dX7_next_101 rfl ?_
      refine gX7_160 hZ dX7_next_102 (fun r102 => ?_)
      refine vX7_163 hZ dX7_next_105 (t_X7_byteAt hBN (by omega)) (fun a105 M105 r105 h105 => ?_)
      obtain ⟨e105, h105⟩ := h105
      replace e105 := e105.symm
      subst e105
      rw [k23] at h105
      have hbr1 := byZ_rg hBN (i := i) (by omega)
      have hbr2 := hbr1.1
      have hbr3 := hbr1.2.1
      have hbr4 := hbr1.2.2.1
      have hbr5 := hbr1.2.2.2
      clear hbr1
      refine f_i2l hZ dX7_next_108 (by omega) ?_
      refine f_ldc2 (v := (97 : Int64)) hZ (97) dX7_next_109 (tb_in 1055 (by decide +kernel) (by decide +kernel)) (by decide) ?_
      refine f_ldc2 (v := (122 : Int64)) hZ (122) dX7_next_112 (tb_in 1056 (by decide +kernel) (by decide +kernel)) (by decide) ?_
      refine sX7_113 hZ dX7_next_115 (t_X7_in (by omega) (by omega) (by omega)) (fun a115 M115 r115 h115 => ?_)
      obtain ⟨e115, h115⟩ := h115
      replace e115 := e115.symm
      subst e115
      refine f_eq (tgt := 321) hZ dX7_next_118 rfl (by omega) (fun h118 => ?_) (fun h118 => ?_)
      · exact f_retV hZ hR dX7_next_321 rfl (by exact nx_word ha hi (by omega) hla (by rw [hbh, bhd_end (by omega)]) hF k25 k24 k23)
      · refine f_aload_n hZ dX7_next_121 rfl ?_
        refine f_dup hZ dX7_next_122 rfl ?_
        refine gX7_160 hZ dX7_next_123 (fun r123 => ?_)
        refine f_iconst hZ dX7_next_126 ?_
        refine f_iadd hZ dX7_next_127 ?_
        refine pX7_160 hZ dX7_next_128 (by omega) ?_
        refine f_goto (tgt := 100) hZ dX7_next_131 rfl ?_
        exfalso; omega
    | succ m ih =>
      intro i N him hai hF k25 k24 k23 hla hbh
      have hBN := hB.nx hF
      have hn := hBN.2.1.2
      have hN22 : N 59 22 = n := hBN.2.1.1
      refine f_aload_n hZ dX7_next_100 rfl ?_
      refine f_aload_n hZ dX7_next_101 rfl ?_
      refine gX7_160 hZ dX7_next_102 (fun r102 => ?_)
      refine vX7_163 hZ dX7_next_105 (t_X7_byteAt hBN (by omega)) (fun a105 M105 r105 h105 => ?_)
      obtain ⟨e105, h105⟩ := h105
      replace e105 := e105.symm
      subst e105
      rw [k23] at h105
      have hbr1 := byZ_rg hBN (i := i) (by omega)
      have hbr2 := hbr1.1
      have hbr3 := hbr1.2.1
      have hbr4 := hbr1.2.2.1
      have hbr5 := hbr1.2.2.2
      clear hbr1
      refine f_i2l hZ dX7_next_108 (by omega) ?_
      refine f_ldc2 (v := (97 : Int64)) hZ (97) dX7_next_109 (tb_in 1055 (by decide +kernel) (by decide +kernel)) (by decide) ?_
      refine f_ldc2 (v := (122 : Int64)) hZ (122) dX7_next_112 (tb_in 1056 (by decide +kernel) (by decide +kernel)) (by decide) ?_
      refine sX7_113 hZ dX7_next_115 (t_X7_in (by omega) (by omega) (by omega)) (fun a115 M115 r115 h115 => ?_)
      obtain ⟨e115, h115⟩ := h115
      replace e115 := e115.symm
      subst e115
      refine f_eq (tgt := 321) hZ dX7_next_118 rfl (by omega) (fun h118 => ?_) (fun h118 => ?_)
      · exact f_retV hZ hR dX7_next_321 rfl (by exact nx_word ha hi (by omega) hla (by rw [hbh, bhd_stop (fun z => by have z : bLt (B i) := z; have := hbr5 (by omega); omega)]) hF k25 k24 k23)
      · refine f_aload_n hZ dX7_next_121 rfl ?_
        refine f_dup hZ dX7_next_122 rfl ?_
        refine gX7_160 hZ dX7_next_123 (fun r123 => ?_)
        refine f_iconst hZ dX7_next_126 ?_
        refine f_iadd hZ dX7_next_127 ?_
        refine pX7_160 hZ dX7_next_128 (by omega) ?_
        refine f_goto (tgt := 100) hZ dX7_next_131 rfl ?_
        refine ih (i + 1) _ (by omega) (by omega) (hF.up (Or.inl rfl)) (by rw [up_app, if_neg (by omega)]; exact k25) (by rw [up_app, if_neg (by omega)]; exact k24) (by rw [up_app, if_pos ⟨rfl, rfl⟩, k23]) hla (by rw [hbh]; exact bhd_step (by omega) (show bLt (B i) by have := hbr5 (by omega); omega))
  have dig1 : ∀ (m : Nat) (i : Int) (N : fM), i + m = n → a ≤ i → nxF M N → N 59 25 = a → N 59 26 = nv B a (min (i - a) 4).toNat → N 59 23 = i → ¬ bLt (B a) → bDg (B a) → a < n → (∀ j, a ≤ j → j < i → bDg (B j)) → bhd 2 B n a = bhd 2 B n i → fG X mX7_next Z 160 [.ref (xa X 59), .null, .int (iv (i - a))] [] N := by
    intro m
    induction m with
    | zero =>
      intro i N him hai hF k25 k26 k23 hla hda han hdj hbh
      have hBN := hB.nx hF
      have hn := hBN.2.1.2
      have hN22 : N 59 22 = n := hBN.2.1.1
      have hnv1 := (nv_rg (B := B) (a := a) (min (i - a) 4).toNat (fun j j1 j2 => hdj j j1 (by omega)) (by omega)).1
      have hnv2 := Int.le_trans (nv_rg (B := B) (a := a) (min (i - a) 4).toNat (fun j j1 j2 => hdj j j1 (by omega)) (by omega)).2 nv_top
      refine f_aload_n hZ dX7_next_160 rfl ?_
      refine f_aload_n hZ dX7_next_161 rfl ?_
      refine gX7_160 hZ dX7_next_162 (fun r162 => ?_)
      refine vX7_163 hZ dX7_next_165 (t_X7_byteAt hBN (by omega)) (fun a165 M165 r165 h165 => ?_)
      obtain ⟨e165, h165⟩ := h165
      replace e165 := e165.symm
      subst e165
      rw [k23] at h165
      have hbr1 := byZ_rg hBN (i := i) (by omega)
      have hbr2 := hbr1.1
      have hbr3 := hbr1.2.1
      have hbr4 := hbr1.2.2.1
      have hbr5 := hbr1.2.2.2
      clear hbr1
      refine f_i2l hZ dX7_next_168 (by omega) ?_
      refine f_ldc2 (v := (48 : Int64)) hZ (48) dX7_next_169 (tb_in 1057 (by decide +kernel) (by decide +kernel)) (by decide) ?_
      refine f_ldc2 (v := (57 : Int64)) hZ (57) dX7_next_172 (tb_in 1058 (by decide +kernel) (by decide +kernel)) (by decide) ?_
      refine sX7_113 hZ dX7_next_175 (t_X7_in (by omega) (by omega) (by omega)) (fun a175 M175 r175 h175 => ?_)
      obtain ⟨e175, h175⟩ := h175
      replace e175 := e175.symm
      subst e175
      refine f_eq (tgt := 235) hZ dX7_next_178 rfl (by omega) (fun h178 => ?_) (fun h178 => ?_)
      · refine f_aload_n hZ dX7_next_235 rfl ?_
        refine f_iload_n hZ dX7_next_236 rfl ?_
        refine f_iconst hZ dX7_next_237 ?_
        refine f_ile (tgt := 245) hZ dX7_next_238 rfl (by omega) (by omega) (fun h238 => ?_) (fun h238 => ?_)
        · refine f_iconst hZ dX7_next_245 ?_
          refine pX7_170 hZ dX7_next_246 (by omega) ?_
          refine f_goto (tgt := 321) hZ dX7_next_249 rfl ?_
          exact f_retV hZ hR dX7_next_321 rfl (by exact nx_num ha hi (by omega) hla hda (by rw [hbh, bhd_end (by omega)]) (hF.up (by omega)) (by rw [up_app, if_neg (by omega)]; exact k25) (by first | exact Or.inl ⟨by omega, by rw [up_app, if_pos ⟨rfl, rfl⟩]⟩ | exact Or.inr ⟨by omega, by rw [up_app, if_pos ⟨rfl, rfl⟩], by rw [up_app, if_neg (by omega), k26, show min (i - a) 4 = i - a by omega]⟩) (by rw [up_app, if_neg (by omega)]; exact k23))
        · refine f_iconst hZ dX7_next_241 ?_
          refine f_goto (tgt := 246) hZ dX7_next_242 rfl ?_
          refine pX7_170 hZ dX7_next_246 (by omega) ?_
          refine f_goto (tgt := 321) hZ dX7_next_249 rfl ?_
          exact f_retV hZ hR dX7_next_321 rfl (by exact nx_num ha hi (by omega) hla hda (by rw [hbh, bhd_end (by omega)]) (hF.up (by omega)) (by rw [up_app, if_neg (by omega)]; exact k25) (by first | exact Or.inl ⟨by omega, by rw [up_app, if_pos ⟨rfl, rfl⟩]⟩ | exact Or.inr ⟨by omega, by rw [up_app, if_pos ⟨rfl, rfl⟩], by rw [up_app, if_neg (by omega), k26, show min (i - a) 4 = i - a by omega]⟩) (by rw [up_app, if_neg (by omega)]; exact k23))
      · refine f_aload_n hZ dX7_next_181 rfl ?_
        refine f_iload_n hZ dX7_next_182 rfl ?_
        refine f_iconst hZ dX7_next_183 ?_
        refine f_ige (tgt := 212) hZ dX7_next_184 rfl (by omega) (by omega) (fun h184 => ?_) (fun h184 => ?_)
        · refine f_aload_n hZ dX7_next_212 rfl ?_
          refine gX7_181 hZ dX7_next_213 (fun r213 => ?_)
          refine pX7_181 hZ dX7_next_216 (by omega) ?_
          refine f_iinc (L' := [_, _, _]) hZ dX7_next_219 rfl rfl ?_
          refine f_aload_n hZ dX7_next_222 rfl ?_
          refine f_dup hZ dX7_next_223 rfl ?_
          refine gX7_160 hZ dX7_next_224 (fun r224 => ?_)
          try simp only [up_app, Nat.reduceEqDiff, Nat.reduceEqDiff, Int.reduceEq, and_true, true_and, and_false, false_and, if_true, if_false, reduceIte] at r224 ⊢
          refine f_iconst hZ dX7_next_227 ?_
          refine f_iadd hZ dX7_next_228 ?_
          refine pX7_160 hZ dX7_next_229 (by omega) ?_
          refine f_goto (tgt := 160) hZ dX7_next_232 rfl ?_
          exfalso; omega
        · refine f_ldc2 (v := (10 : Int64)) hZ (10) dX7_next_187 (tb_in 1059 (by decide +kernel) (by decide +kernel)) (by decide) ?_
          refine f_aload_n hZ dX7_next_190 rfl ?_
          refine gX7_181 hZ dX7_next_191 (fun r191 => ?_)
          refine f_lmul hZ dX7_next_194 ?_
          refine f_aload_n hZ dX7_next_195 rfl ?_
          refine f_aload_n hZ dX7_next_196 rfl ?_
          refine gX7_160 hZ dX7_next_197 (fun r197 => ?_)
          refine vX7_163 hZ dX7_next_200 (t_X7_byteAt hBN (by omega)) (fun a200 M200 r200 h200 => ?_)
          obtain ⟨e200, h200⟩ := h200
          replace e200 := e200.symm
          subst e200
          rw [k23] at h200
          have hbr1 := byZ_rg hBN (i := i) (by omega)
          have hbr2 := hbr1.1
          have hbr3 := hbr1.2.1
          have hbr4 := hbr1.2.2.1
          have hbr5 := hbr1.2.2.2
          clear hbr1
          refine f_i2l hZ dX7_next_203 (by omega) ?_
          refine f_ladd hZ dX7_next_204 ?_
          refine f_ldc2 (v := (48 : Int64)) hZ (48) dX7_next_205 (tb_in 1057 (by decide +kernel) (by decide +kernel)) (by decide) ?_
          refine f_lsub hZ dX7_next_208 ?_
          refine f_goto (tgt := 216) hZ dX7_next_209 rfl ?_
          refine pX7_181 hZ dX7_next_216 (by omega) ?_
          refine f_iinc (L' := [_, _, _]) hZ dX7_next_219 rfl rfl ?_
          refine f_aload_n hZ dX7_next_222 rfl ?_
          refine f_dup hZ dX7_next_223 rfl ?_
          refine gX7_160 hZ dX7_next_224 (fun r224 => ?_)
          try simp only [up_app, Nat.reduceEqDiff, Nat.reduceEqDiff, Int.reduceEq, and_true, true_and, and_false, false_and, if_true, if_false, reduceIte] at r224 ⊢
          refine f_iconst hZ dX7_next_227 ?_
          refine f_iadd hZ dX7_next_228 ?_
          refine pX7_160 hZ dX7_next_229 (by omega) ?_
          refine f_goto (tgt := 160) hZ dX7_next_232 rfl ?_
          exfalso; omega
    | succ m ih =>
      intro i N him hai hF k25 k26 k23 hla hda han hdj hbh
      have hBN := hB.nx hF
      have hn := hBN.2.1.2
      have hN22 : N 59 22 = n := hBN.2.1.1
      have hnv1 := (nv_rg (B := B) (a := a) (min (i - a) 4).toNat (fun j j1 j2 => hdj j j1 (by omega)) (by omega)).1
      have hnv2 := Int.le_trans (nv_rg (B := B) (a := a) (min (i - a) 4).toNat (fun j j1 j2 => hdj j j1 (by omega)) (by omega)).2 nv_top
      refine f_aload_n hZ dX7_next_160 rfl ?_
      refine f_aload_n hZ dX7_next_161 rfl ?_
      refine gX7_160 hZ dX7_next_162 (fun r162 => ?_)
      try simp only [up_app, Nat.reduceEqDiff, Int.reduceEq, and_true, true_and, and_self, and_false, false_and, if_true, if_false, reduceIte] at r162 ⊢
      refine vX7_163 hZ dX7_next_165 (t_X7_byteAt hBN (by omega)) (fun a165 M165 r165 h165 => ?_)
      obtain ⟨e165, h165⟩ := h165
      replace e165 := e165.symm
      subst e165
      rw [k23] at h165
      have hbr1 := byZ_rg hBN (i := i) (by omega)
      have hbr2 := hbr1.1
      have hbr3 := hbr1.2.1
      have hbr4 := hbr1.2.2.1
      have hbr5 := hbr1.2.2.2
      clear hbr1
      refine f_i2l hZ dX7_next_168 (by first | omega | (simp only [up_app, Nat.reduceEqDiff, Int.reduceEq, and_true, true_and, and_self, and_false, false_and, if_true, if_false, reduceIte, k23, k26]; omega)) ?_
      refine f_ldc2 (v := (48 : Int64)) hZ (48) dX7_next_169 (tb_in 1057 (by decide +kernel) (by decide +kernel)) (by decide) ?_
      refine f_ldc2 (v := (57 : Int64)) hZ (57) dX7_next_172 (tb_in 1058 (by decide +kernel) (by decide +kernel)) (by decide) ?_
      refine sX7_113 hZ dX7_next_175 (t_X7_in (by omega) (by omega) (by omega)) (fun a175 M175 r175 h175 => ?_)
      obtain ⟨e175, h175⟩ := h175
      replace e175 := e175.symm
      subst e175
      refine f_eq (tgt := 235) hZ dX7_next_178 rfl (by first | omega | (simp only [up_app, Nat.reduceEqDiff, Int.reduceEq, and_true, true_and, and_self, and_false, false_and, if_true, if_false, reduceIte, k23, k26]; omega)) (fun h178 => ?_) (fun h178 => ?_)
      · refine f_aload_n hZ dX7_next_235 rfl ?_
        refine f_iload_n hZ dX7_next_236 rfl ?_
        refine f_iconst hZ dX7_next_237 ?_
        refine f_ile (tgt := 245) hZ dX7_next_238 rfl (by first | omega | (simp only [up_app, Nat.reduceEqDiff, Int.reduceEq, and_true, true_and, and_self, and_false, false_and, if_true, if_false, reduceIte, k23, k26]; omega)) (by first | omega | (simp only [up_app, Nat.reduceEqDiff, Int.reduceEq, and_true, true_and, and_self, and_false, false_and, if_true, if_false, reduceIte, k23, k26]; omega)) (fun h238 => ?_) (fun h238 => ?_)
        · refine f_iconst hZ dX7_next_245 ?_
          refine pX7_170 hZ dX7_next_246 (by first | omega | (simp only [up_app, Nat.reduceEqDiff, Int.reduceEq, and_true, true_and, and_self, and_false, false_and, if_true, if_false, reduceIte, k23, k26]; omega)) ?_
          refine f_goto (tgt := 321) hZ dX7_next_249 rfl ?_
          exact f_retV hZ hR dX7_next_321 rfl (by exact nx_num ha hi (by omega) hla hda (by rw [hbh, bhd_stop (fun z => by have z : bDg (B i) := z; have := hbr5 (by omega); omega)]) (hF.up (by omega)) (by rw [up_app, if_neg (by omega)]; exact k25) (by first | exact Or.inl ⟨by omega, by rw [up_app, if_pos ⟨rfl, rfl⟩]⟩ | exact Or.inr ⟨by omega, by rw [up_app, if_pos ⟨rfl, rfl⟩], by rw [up_app, if_neg (by omega), k26, show min (i - a) 4 = i - a by omega]⟩) (by rw [up_app, if_neg (by omega)]; exact k23))
        · refine f_iconst hZ dX7_next_241 ?_
          refine f_goto (tgt := 246) hZ dX7_next_242 rfl ?_
          refine pX7_170 hZ dX7_next_246 (by first | omega | (simp only [up_app, Nat.reduceEqDiff, Int.reduceEq, and_true, true_and, and_self, and_false, false_and, if_true, if_false, reduceIte, k23, k26]; omega)) ?_
          refine f_goto (tgt := 321) hZ dX7_next_249 rfl ?_
          exact f_retV hZ hR dX7_next_321 rfl (by exact nx_num ha hi (by omega) hla hda (by rw [hbh, bhd_stop (fun z => by have z : bDg (B i) := z; have := hbr5 (by omega); omega)]) (hF.up (by omega)) (by rw [up_app, if_neg (by omega)]; exact k25) (by first | exact Or.inl ⟨by omega, by rw [up_app, if_pos ⟨rfl, rfl⟩]⟩ | exact Or.inr ⟨by omega, by rw [up_app, if_pos ⟨rfl, rfl⟩], by rw [up_app, if_neg (by omega), k26, show min (i - a) 4 = i - a by omega]⟩) (by rw [up_app, if_neg (by omega)]; exact k23))
      · refine f_aload_n hZ dX7_next_181 rfl ?_
        refine f_iload_n hZ dX7_next_182 rfl ?_
        refine f_iconst hZ dX7_next_183 ?_
        refine f_ige (tgt := 212) hZ dX7_next_184 rfl (by first | omega | (simp only [up_app, Nat.reduceEqDiff, Int.reduceEq, and_true, true_and, and_self, and_false, false_and, if_true, if_false, reduceIte, k23, k26]; omega)) (by first | omega | (simp only [up_app, Nat.reduceEqDiff, Int.reduceEq, and_true, true_and, and_self, and_false, false_and, if_true, if_false, reduceIte, k23, k26]; omega)) (fun h184 => ?_) (fun h184 => ?_)
        · refine f_aload_n hZ dX7_next_212 rfl ?_
          refine gX7_181 hZ dX7_next_213 (fun r213 => ?_)
          try simp only [up_app, Nat.reduceEqDiff, Int.reduceEq, and_true, true_and, and_self, and_false, false_and, if_true, if_false, reduceIte] at r213 ⊢
          refine pX7_181 hZ dX7_next_216 (by first | omega | (simp only [up_app, Nat.reduceEqDiff, Int.reduceEq, and_true, true_and, and_self, and_false, false_and, if_true, if_false, reduceIte, k23, k26]; omega)) ?_
          refine f_iinc (L' := [_, _, _]) hZ dX7_next_219 rfl rfl ?_
          refine f_aload_n hZ dX7_next_222 rfl ?_
          refine f_dup hZ dX7_next_223 rfl ?_
          refine gX7_160 hZ dX7_next_224 (fun r224 => ?_)
          try simp only [up_app, Nat.reduceEqDiff, Int.reduceEq, and_true, true_and, and_self, and_false, false_and, if_true, if_false, reduceIte] at r224 ⊢
          refine f_iconst hZ dX7_next_227 ?_
          refine f_iadd hZ dX7_next_228 ?_
          refine pX7_160 hZ dX7_next_229 (by first | omega | (simp only [up_app, Nat.reduceEqDiff, Int.reduceEq, and_true, true_and, and_self, and_false, false_and, if_true, if_false, reduceIte, k23, k26]; omega)) ?_
          refine f_goto (tgt := 160) hZ dX7_next_232 rfl ?_
          have hbi := hbr5 (by omega)
          have hdi : bDg (B i) := by omega
          have hh := ih (i + 1) _ (by omega) (by omega) ((hF.up (i := 26) (v := nv B a (min (i + 1 - a) 4).toNat) (by omega)).up (i := 23) (v := i + 1) (by omega)) (by rw [up_app, if_neg (by omega), up_app, if_neg (by omega)]; exact k25) (by rw [up_app, if_neg (by omega), up_app, if_pos ⟨rfl, rfl⟩]) (by rw [up_app, if_pos ⟨rfl, rfl⟩]) hla hda han (fun j j1 j2 => (Int.lt_or_eq_of_le (show j ≤ i by omega)).elim (fun z => hdj j j1 z) (fun z => by rw [z]; exact hdi)) (by rw [hbh]; exact bhd_step (by omega) (show bDg (B i) from hdi))
          rw [show i + 1 - a = i - a + 1 by omega] at hh
          refine f_eqM ?_ hh
          rw [k23]
          refine congrArg (fun q => up (up N 59 26 q) 59 23 (i + 1)) ?_
          first
            | (rw [k26, show min (i - a) 4 = 4 by omega, show min (i - a + 1) 4 = 4 by omega])
            | (rw [show (min (i - a + 1) 4).toNat = (min (i - a) 4).toNat + 1 by omega]; show _ = nv B a (min (i - a) 4).toNat * 10 + B (a + ((min (i - a) 4).toNat : Int)) - 48; rw [show a + ((min (i - a) 4).toNat : Int) = i by omega, k26]; omega)
        · refine f_ldc2 (v := (10 : Int64)) hZ (10) dX7_next_187 (tb_in 1059 (by decide +kernel) (by decide +kernel)) (by decide) ?_
          refine f_aload_n hZ dX7_next_190 rfl ?_
          refine gX7_181 hZ dX7_next_191 (fun r191 => ?_)
          try simp only [up_app, Nat.reduceEqDiff, Int.reduceEq, and_true, true_and, and_self, and_false, false_and, if_true, if_false, reduceIte] at r191 ⊢
          refine f_lmul hZ dX7_next_194 ?_
          refine f_aload_n hZ dX7_next_195 rfl ?_
          refine f_aload_n hZ dX7_next_196 rfl ?_
          refine gX7_160 hZ dX7_next_197 (fun r197 => ?_)
          try simp only [up_app, Nat.reduceEqDiff, Int.reduceEq, and_true, true_and, and_self, and_false, false_and, if_true, if_false, reduceIte] at r197 ⊢
          refine vX7_163 hZ dX7_next_200 (t_X7_byteAt hBN (by omega)) (fun a200 M200 r200 h200 => ?_)
          obtain ⟨e200, h200⟩ := h200
          replace e200 := e200.symm
          subst e200
          rw [k23] at h200
          have hbr1 := byZ_rg hBN (i := i) (by omega)
          have hbr2 := hbr1.1
          have hbr3 := hbr1.2.1
          have hbr4 := hbr1.2.2.1
          have hbr5 := hbr1.2.2.2
          clear hbr1
          refine f_i2l hZ dX7_next_203 (by first | omega | (simp only [up_app, Nat.reduceEqDiff, Int.reduceEq, and_true, true_and, and_self, and_false, false_and, if_true, if_false, reduceIte, k23, k26]; omega)) ?_
          refine f_ladd hZ dX7_next_204 ?_
          refine f_ldc2 (v := (48 : Int64)) hZ (48) dX7_next_205 (tb_in 1057 (by decide +kernel) (by decide +kernel)) (by decide) ?_
          refine f_lsub hZ dX7_next_208 ?_
          refine f_goto (tgt := 216) hZ dX7_next_209 rfl ?_
          refine pX7_181 hZ dX7_next_216 (by first | omega | (simp only [up_app, Nat.reduceEqDiff, Int.reduceEq, and_true, true_and, and_self, and_false, false_and, if_true, if_false, reduceIte, k23, k26]; omega)) ?_
          refine f_iinc (L' := [_, _, _]) hZ dX7_next_219 rfl rfl ?_
          refine f_aload_n hZ dX7_next_222 rfl ?_
          refine f_dup hZ dX7_next_223 rfl ?_
          refine gX7_160 hZ dX7_next_224 (fun r224 => ?_)
          try simp only [up_app, Nat.reduceEqDiff, Int.reduceEq, and_true, true_and, and_self, and_false, false_and, if_true, if_false, reduceIte] at r224 ⊢
          refine f_iconst hZ dX7_next_227 ?_
          refine f_iadd hZ dX7_next_228 ?_
          refine pX7_160 hZ dX7_next_229 (by first | omega | (simp only [up_app, Nat.reduceEqDiff, Int.reduceEq, and_true, true_and, and_self, and_false, false_and, if_true, if_false, reduceIte, k23, k26]; omega)) ?_
          refine f_goto (tgt := 160) hZ dX7_next_232 rfl ?_
          have hbi := hbr5 (by omega)
          have hdi : bDg (B i) := by omega
          have hh := ih (i + 1) _ (by omega) (by omega) ((hF.up (i := 26) (v := nv B a (min (i + 1 - a) 4).toNat) (by omega)).up (i := 23) (v := i + 1) (by omega)) (by rw [up_app, if_neg (by omega), up_app, if_neg (by omega)]; exact k25) (by rw [up_app, if_neg (by omega), up_app, if_pos ⟨rfl, rfl⟩]) (by rw [up_app, if_pos ⟨rfl, rfl⟩]) hla hda han (fun j j1 j2 => (Int.lt_or_eq_of_le (show j ≤ i by omega)).elim (fun z => hdj j j1 z) (fun z => by rw [z]; exact hdi)) (by rw [hbh]; exact bhd_step (by omega) (show bDg (B i) from hdi))
          rw [show i + 1 - a = i - a + 1 by omega] at hh
          refine f_eqM ?_ hh
          rw [k23]
          refine congrArg (fun q => up (up N 59 26 q) 59 23 (i + 1)) ?_
          first
            | (rw [k26, show min (i - a) 4 = 4 by omega, show min (i - a + 1) 4 = 4 by omega])
            | (rw [show (min (i - a + 1) 4).toNat = (min (i - a) 4).toNat + 1 by omega]; show _ = nv B a (min (i - a) 4).toNat * 10 + B (a + ((min (i - a) 4).toNat : Int)) - 48; rw [show a + ((min (i - a) 4).toNat : Int) = i by omega, k26]; omega)
  have fin : ∀ N : fM, nxF M N → N 59 23 = a → fG X mX7_next Z 39 [.ref (xa X 59), .null, .null] [] N := by
    intro N hF k23
    have hBN := hB.nx hF
    have hn := hBN.2.1.2
    have hN22 : N 59 22 = n := hBN.2.1.1
    have let0 : ∀ N : fM, nxF M N → N 59 25 = a → N 59 24 = 1 → N 59 23 = a → bLt (B a) ∧ a < n → fG X mX7_next Z 100 [.ref (xa X 59), .null, .null] [] N := by
      intro N hF k25 k24 k23 hla
      have hBN := hB.nx hF
      have hn := hBN.2.1.2
      have hN22 : N 59 22 = n := hBN.2.1.1
      refine f_aload_n hZ dX7_next_100 rfl ?_
      refine f_aload_n hZ dX7_next_101 rfl ?_
      refine gX7_160 hZ dX7_next_102 (fun r102 => ?_)
      refine vX7_163 hZ dX7_next_105 (t_X7_byteAt hBN (by omega)) (fun a105 M105 r105 h105 => ?_)
      obtain ⟨e105, h105⟩ := h105
      replace e105 := e105.symm
      subst e105
      rw [k23] at h105
      have hbr1 := byZ_rg hBN (i := a) (by omega)
      have hbr2 := hbr1.1
      have hbr3 := hbr1.2.1
      have hbr4 := hbr1.2.2.1
      have hbr5 := hbr1.2.2.2
      clear hbr1
      refine f_i2l hZ dX7_next_108 (by omega) ?_
      refine f_ldc2 (v := (97 : Int64)) hZ (97) dX7_next_109 (tb_in 1055 (by decide +kernel) (by decide +kernel)) (by decide) ?_
      refine f_ldc2 (v := (122 : Int64)) hZ (122) dX7_next_112 (tb_in 1056 (by decide +kernel) (by decide +kernel)) (by decide) ?_
      refine sX7_113 hZ dX7_next_115 (t_X7_in (by omega) (by omega) (by omega)) (fun a115 M115 r115 h115 => ?_)
      obtain ⟨e115, h115⟩ := h115
      replace e115 := e115.symm
      subst e115
      refine f_eq (tgt := 321) hZ dX7_next_118 rfl (by omega) (fun h118 => ?_) (fun h118 => ?_)
      · exact f_retV hZ hR dX7_next_321 rfl (by exfalso; have hba := hbr5 (by omega); omega)
      · refine f_aload_n hZ dX7_next_121 rfl ?_
        refine f_dup hZ dX7_next_122 rfl ?_
        refine gX7_160 hZ dX7_next_123 (fun r123 => ?_)
        refine f_iconst hZ dX7_next_126 ?_
        refine f_iadd hZ dX7_next_127 ?_
        refine pX7_160 hZ dX7_next_128 (by omega) ?_
        refine f_goto (tgt := 100) hZ dX7_next_131 rfl ?_
        exact let1 (n - (a + 1)).toNat (a + 1) _ (by omega) (by omega) (hF.up (Or.inl rfl)) (by rw [up_app, if_neg (by omega)]; exact k25) (by rw [up_app, if_neg (by omega)]; exact k24) (by rw [up_app, if_pos ⟨rfl, rfl⟩, k23]) hla.1 (bhd_step hla.2 (show bLt (B a) from hla.1))
    refine f_aload_n hZ dX7_next_39 rfl ?_
    refine f_aload_n hZ dX7_next_40 rfl ?_
    refine gX7_160 hZ dX7_next_41 (fun r41 => ?_)
    try simp only [up_app, Nat.reduceEqDiff, Int.reduceEq, and_true, true_and, and_self, and_false, false_and, if_true, if_false, reduceIte] at r41 ⊢
    refine pX7_167 hZ dX7_next_44 (by first | omega | (simp only [up_app, Nat.reduceEqDiff, Int.reduceEq, and_true, true_and, and_self, and_false, false_and, if_true, if_false, reduceIte, k23]; omega)) ?_
    refine f_aload_n hZ dX7_next_47 rfl ?_
    refine f_aload_n hZ dX7_next_48 rfl ?_
    refine gX7_160 hZ dX7_next_49 (fun r49 => ?_)
    try simp only [up_app, Nat.reduceEqDiff, Int.reduceEq, and_true, true_and, and_self, and_false, false_and, if_true, if_false, reduceIte] at r49 ⊢
    refine vX7_163 hZ dX7_next_52 (t_X7_byteAt (hB.nx (hF.up (by omega))) (by show 0 ≤ N 59 23 ∧ N 59 23 < 2147483648; omega)) (fun a52 M52 r52 h52 => ?_)
    obtain ⟨e52, h52⟩ := h52
    replace e52 := e52.symm
    subst e52
    replace h52 : a52 = byZ B n a := by rw [h52]; show byZ B n (N 59 23) = _; rw [k23]
    have hbr1 := byZ_rg hBN (i := a) (by omega)
    have hbr2 := hbr1.1
    have hbr3 := hbr1.2.1
    have hbr4 := hbr1.2.2.1
    have hbr5 := hbr1.2.2.2
    clear hbr1
    refine f_istore_n (L' := [_, _, _]) hZ dX7_next_55 rfl rfl ?_
    refine f_aload_n hZ dX7_next_56 rfl ?_
    refine f_iconst hZ dX7_next_57 ?_
    refine pX7_170 hZ dX7_next_58 (by first | omega | (simp only [up_app, Nat.reduceEqDiff, Int.reduceEq, and_true, true_and, and_self, and_false, false_and, if_true, if_false, reduceIte, k23]; omega)) ?_
    refine f_iload_n hZ dX7_next_61 rfl ?_
    refine f_ge (tgt := 81) hZ dX7_next_62 rfl (by first | omega | (simp only [up_app, Nat.reduceEqDiff, Int.reduceEq, and_true, true_and, and_self, and_false, false_and, if_true, if_false, reduceIte, k23]; omega)) (fun h62 => ?_) (fun h62 => ?_)
    · refine f_iload_n hZ dX7_next_81 rfl ?_
      refine f_i2l hZ dX7_next_82 (by first | omega | (simp only [up_app, Nat.reduceEqDiff, Int.reduceEq, and_true, true_and, and_self, and_false, false_and, if_true, if_false, reduceIte, k23]; omega)) ?_
      refine f_ldc2 (v := (97 : Int64)) hZ (97) dX7_next_83 (tb_in 1055 (by decide +kernel) (by decide +kernel)) (by decide) ?_
      refine f_ldc2 (v := (122 : Int64)) hZ (122) dX7_next_86 (tb_in 1056 (by decide +kernel) (by decide +kernel)) (by decide) ?_
      refine sX7_113 hZ dX7_next_89 (t_X7_in (by omega) (by omega) (by omega)) (fun a89 M89 r89 h89 => ?_)
      obtain ⟨e89, h89⟩ := h89
      replace e89 := e89.symm
      subst e89
      refine f_eq (tgt := 134) hZ dX7_next_92 rfl (by first | omega | (simp only [up_app, Nat.reduceEqDiff, Int.reduceEq, and_true, true_and, and_self, and_false, false_and, if_true, if_false, reduceIte, k23]; omega)) (fun h92 => ?_) (fun h92 => ?_)
      · refine f_iload_n hZ dX7_next_134 rfl ?_
        refine f_i2l hZ dX7_next_135 (by first | omega | (simp only [up_app, Nat.reduceEqDiff, Int.reduceEq, and_true, true_and, and_self, and_false, false_and, if_true, if_false, reduceIte, k23]; omega)) ?_
        refine f_ldc2 (v := (48 : Int64)) hZ (48) dX7_next_136 (tb_in 1057 (by decide +kernel) (by decide +kernel)) (by decide) ?_
        refine f_ldc2 (v := (57 : Int64)) hZ (57) dX7_next_139 (tb_in 1058 (by decide +kernel) (by decide +kernel)) (by decide) ?_
        refine sX7_113 hZ dX7_next_142 (t_X7_in (by omega) (by omega) (by omega)) (fun a142 M142 r142 h142 => ?_)
        obtain ⟨e142, h142⟩ := h142
        replace e142 := e142.symm
        subst e142
        refine f_eq (tgt := 252) hZ dX7_next_145 rfl (by first | omega | (simp only [up_app, Nat.reduceEqDiff, Int.reduceEq, and_true, true_and, and_self, and_false, false_and, if_true, if_false, reduceIte, k23]; omega)) (fun h145 => ?_) (fun h145 => ?_)
        · refine f_iload_n hZ dX7_next_252 rfl ?_
          refine f_bipush hZ dX7_next_253 ?_
          refine f_ieq (tgt := 300) hZ dX7_next_255 rfl (by first | omega | (simp only [up_app, Nat.reduceEqDiff, Int.reduceEq, and_true, true_and, and_self, and_false, false_and, if_true, if_false, reduceIte, k23]; omega)) (by first | omega | (simp only [up_app, Nat.reduceEqDiff, Int.reduceEq, and_true, true_and, and_self, and_false, false_and, if_true, if_false, reduceIte, k23]; omega)) (fun h255 => ?_) (fun h255 => ?_)
          · refine f_aload_n hZ dX7_next_300 rfl ?_
            refine f_iconst hZ dX7_next_301 ?_
            refine pX7_170 hZ dX7_next_302 (by first | omega | (simp only [up_app, Nat.reduceEqDiff, Int.reduceEq, and_true, true_and, and_self, and_false, false_and, if_true, if_false, reduceIte, k23]; omega)) ?_
            refine f_aload_n hZ dX7_next_305 rfl ?_
            refine f_iload_n hZ dX7_next_306 rfl ?_
            refine f_i2l hZ dX7_next_307 (by first | omega | (simp only [up_app, Nat.reduceEqDiff, Int.reduceEq, and_true, true_and, and_self, and_false, false_and, if_true, if_false, reduceIte, k23]; omega)) ?_
            refine pX7_181 hZ dX7_next_308 (by first | omega | (simp only [up_app, Nat.reduceEqDiff, Int.reduceEq, and_true, true_and, and_self, and_false, false_and, if_true, if_false, reduceIte, k23]; omega)) ?_
            refine f_aload_n hZ dX7_next_311 rfl ?_
            refine f_dup hZ dX7_next_312 rfl ?_
            refine gX7_160 hZ dX7_next_313 (fun r313 => ?_)
            try simp only [up_app, Nat.reduceEqDiff, Int.reduceEq, and_true, true_and, and_self, and_false, false_and, if_true, if_false, reduceIte] at r313 ⊢
            refine f_iconst hZ dX7_next_316 ?_
            refine f_iadd hZ dX7_next_317 ?_
            refine pX7_160 hZ dX7_next_318 (by first | omega | (simp only [up_app, Nat.reduceEqDiff, Int.reduceEq, and_true, true_and, and_self, and_false, false_and, if_true, if_false, reduceIte, k23]; omega)) ?_
            exact f_retV hZ hR dX7_next_321 rfl (by first | exact nx_end ha hi (by omega) ((((hF.up (by omega)).up (by omega)).up (by omega)).up (by omega)) (by show N 59 22 = n; exact hN22) rfl k23 | (have hba := hbr5 (by omega); exact nx_sign ha hi (by omega) (by omega) (by omega) (by omega) (((((hF.up (by omega)).up (by omega)).up (by omega)).up (by omega)).up (by omega)) k23 rfl (by show a52 = B a; omega) (by show N 59 23 + 1 = a + 1; omega)) | (have hba := hbr5 (by omega); exact nx_bad ha hi (by omega) (by omega) (by omega) (by omega) ((hF.up (by omega)).up (by omega)) k23 rfl k23))
          · refine f_iload_n hZ dX7_next_258 rfl ?_
            refine f_bipush hZ dX7_next_259 ?_
            refine f_ieq (tgt := 300) hZ dX7_next_261 rfl (by first | omega | (simp only [up_app, Nat.reduceEqDiff, Int.reduceEq, and_true, true_and, and_self, and_false, false_and, if_true, if_false, reduceIte, k23]; omega)) (by first | omega | (simp only [up_app, Nat.reduceEqDiff, Int.reduceEq, and_true, true_and, and_self, and_false, false_and, if_true, if_false, reduceIte, k23]; omega)) (fun h261 => ?_) (fun h261 => ?_)
            · refine f_aload_n hZ dX7_next_300 rfl ?_
              refine f_iconst hZ dX7_next_301 ?_
              refine pX7_170 hZ dX7_next_302 (by first | omega | (simp only [up_app, Nat.reduceEqDiff, Int.reduceEq, and_true, true_and, and_self, and_false, false_and, if_true, if_false, reduceIte, k23]; omega)) ?_
              refine f_aload_n hZ dX7_next_305 rfl ?_
              refine f_iload_n hZ dX7_next_306 rfl ?_
              refine f_i2l hZ dX7_next_307 (by first | omega | (simp only [up_app, Nat.reduceEqDiff, Int.reduceEq, and_true, true_and, and_self, and_false, false_and, if_true, if_false, reduceIte, k23]; omega)) ?_
              refine pX7_181 hZ dX7_next_308 (by first | omega | (simp only [up_app, Nat.reduceEqDiff, Int.reduceEq, and_true, true_and, and_self, and_false, false_and, if_true, if_false, reduceIte, k23]; omega)) ?_
              refine f_aload_n hZ dX7_next_311 rfl ?_
              refine f_dup hZ dX7_next_312 rfl ?_
              refine gX7_160 hZ dX7_next_313 (fun r313 => ?_)
              try simp only [up_app, Nat.reduceEqDiff, Int.reduceEq, and_true, true_and, and_self, and_false, false_and, if_true, if_false, reduceIte] at r313 ⊢
              refine f_iconst hZ dX7_next_316 ?_
              refine f_iadd hZ dX7_next_317 ?_
              refine pX7_160 hZ dX7_next_318 (by first | omega | (simp only [up_app, Nat.reduceEqDiff, Int.reduceEq, and_true, true_and, and_self, and_false, false_and, if_true, if_false, reduceIte, k23]; omega)) ?_
              exact f_retV hZ hR dX7_next_321 rfl (by first | exact nx_end ha hi (by omega) ((((hF.up (by omega)).up (by omega)).up (by omega)).up (by omega)) (by show N 59 22 = n; exact hN22) rfl k23 | (have hba := hbr5 (by omega); exact nx_sign ha hi (by omega) (by omega) (by omega) (by omega) (((((hF.up (by omega)).up (by omega)).up (by omega)).up (by omega)).up (by omega)) k23 rfl (by show a52 = B a; omega) (by show N 59 23 + 1 = a + 1; omega)) | (have hba := hbr5 (by omega); exact nx_bad ha hi (by omega) (by omega) (by omega) (by omega) ((hF.up (by omega)).up (by omega)) k23 rfl k23))
            · refine f_iload_n hZ dX7_next_264 rfl ?_
              refine f_bipush hZ dX7_next_265 ?_
              refine f_ieq (tgt := 300) hZ dX7_next_267 rfl (by first | omega | (simp only [up_app, Nat.reduceEqDiff, Int.reduceEq, and_true, true_and, and_self, and_false, false_and, if_true, if_false, reduceIte, k23]; omega)) (by first | omega | (simp only [up_app, Nat.reduceEqDiff, Int.reduceEq, and_true, true_and, and_self, and_false, false_and, if_true, if_false, reduceIte, k23]; omega)) (fun h267 => ?_) (fun h267 => ?_)
              · refine f_aload_n hZ dX7_next_300 rfl ?_
                refine f_iconst hZ dX7_next_301 ?_
                refine pX7_170 hZ dX7_next_302 (by first | omega | (simp only [up_app, Nat.reduceEqDiff, Int.reduceEq, and_true, true_and, and_self, and_false, false_and, if_true, if_false, reduceIte, k23]; omega)) ?_
                refine f_aload_n hZ dX7_next_305 rfl ?_
                refine f_iload_n hZ dX7_next_306 rfl ?_
                refine f_i2l hZ dX7_next_307 (by first | omega | (simp only [up_app, Nat.reduceEqDiff, Int.reduceEq, and_true, true_and, and_self, and_false, false_and, if_true, if_false, reduceIte, k23]; omega)) ?_
                refine pX7_181 hZ dX7_next_308 (by first | omega | (simp only [up_app, Nat.reduceEqDiff, Int.reduceEq, and_true, true_and, and_self, and_false, false_and, if_true, if_false, reduceIte, k23]; omega)) ?_
                refine f_aload_n hZ dX7_next_311 rfl ?_
                refine f_dup hZ dX7_next_312 rfl ?_
                refine gX7_160 hZ dX7_next_313 (fun r313 => ?_)
                try simp only [up_app, Nat.reduceEqDiff, Int.reduceEq, and_true, true_and, and_self, and_false, false_and, if_true, if_false, reduceIte] at r313 ⊢
                refine f_iconst hZ dX7_next_316 ?_
                refine f_iadd hZ dX7_next_317 ?_
                refine pX7_160 hZ dX7_next_318 (by first | omega | (simp only [up_app, Nat.reduceEqDiff, Int.reduceEq, and_true, true_and, and_self, and_false, false_and, if_true, if_false, reduceIte, k23]; omega)) ?_
                exact f_retV hZ hR dX7_next_321 rfl (by first | exact nx_end ha hi (by omega) ((((hF.up (by omega)).up (by omega)).up (by omega)).up (by omega)) (by show N 59 22 = n; exact hN22) rfl k23 | (have hba := hbr5 (by omega); exact nx_sign ha hi (by omega) (by omega) (by omega) (by omega) (((((hF.up (by omega)).up (by omega)).up (by omega)).up (by omega)).up (by omega)) k23 rfl (by show a52 = B a; omega) (by show N 59 23 + 1 = a + 1; omega)) | (have hba := hbr5 (by omega); exact nx_bad ha hi (by omega) (by omega) (by omega) (by omega) ((hF.up (by omega)).up (by omega)) k23 rfl k23))
              · refine f_iload_n hZ dX7_next_270 rfl ?_
                refine f_bipush hZ dX7_next_271 ?_
                refine f_ieq (tgt := 300) hZ dX7_next_273 rfl (by first | omega | (simp only [up_app, Nat.reduceEqDiff, Int.reduceEq, and_true, true_and, and_self, and_false, false_and, if_true, if_false, reduceIte, k23]; omega)) (by first | omega | (simp only [up_app, Nat.reduceEqDiff, Int.reduceEq, and_true, true_and, and_self, and_false, false_and, if_true, if_false, reduceIte, k23]; omega)) (fun h273 => ?_) (fun h273 => ?_)
                · refine f_aload_n hZ dX7_next_300 rfl ?_
                  refine f_iconst hZ dX7_next_301 ?_
                  refine pX7_170 hZ dX7_next_302 (by first | omega | (simp only [up_app, Nat.reduceEqDiff, Int.reduceEq, and_true, true_and, and_self, and_false, false_and, if_true, if_false, reduceIte, k23]; omega)) ?_
                  refine f_aload_n hZ dX7_next_305 rfl ?_
                  refine f_iload_n hZ dX7_next_306 rfl ?_
                  refine f_i2l hZ dX7_next_307 (by first | omega | (simp only [up_app, Nat.reduceEqDiff, Int.reduceEq, and_true, true_and, and_self, and_false, false_and, if_true, if_false, reduceIte, k23]; omega)) ?_
                  refine pX7_181 hZ dX7_next_308 (by first | omega | (simp only [up_app, Nat.reduceEqDiff, Int.reduceEq, and_true, true_and, and_self, and_false, false_and, if_true, if_false, reduceIte, k23]; omega)) ?_
                  refine f_aload_n hZ dX7_next_311 rfl ?_
                  refine f_dup hZ dX7_next_312 rfl ?_
                  refine gX7_160 hZ dX7_next_313 (fun r313 => ?_)
                  try simp only [up_app, Nat.reduceEqDiff, Int.reduceEq, and_true, true_and, and_self, and_false, false_and, if_true, if_false, reduceIte] at r313 ⊢
                  refine f_iconst hZ dX7_next_316 ?_
                  refine f_iadd hZ dX7_next_317 ?_
                  refine pX7_160 hZ dX7_next_318 (by first | omega | (simp only [up_app, Nat.reduceEqDiff, Int.reduceEq, and_true, true_and, and_self, and_false, false_and, if_true, if_false, reduceIte, k23]; omega)) ?_
                  exact f_retV hZ hR dX7_next_321 rfl (by first | exact nx_end ha hi (by omega) ((((hF.up (by omega)).up (by omega)).up (by omega)).up (by omega)) (by show N 59 22 = n; exact hN22) rfl k23 | (have hba := hbr5 (by omega); exact nx_sign ha hi (by omega) (by omega) (by omega) (by omega) (((((hF.up (by omega)).up (by omega)).up (by omega)).up (by omega)).up (by omega)) k23 rfl (by show a52 = B a; omega) (by show N 59 23 + 1 = a + 1; omega)) | (have hba := hbr5 (by omega); exact nx_bad ha hi (by omega) (by omega) (by omega) (by omega) ((hF.up (by omega)).up (by omega)) k23 rfl k23))
                · refine f_iload_n hZ dX7_next_276 rfl ?_
                  refine f_bipush hZ dX7_next_277 ?_
                  refine f_ieq (tgt := 300) hZ dX7_next_279 rfl (by first | omega | (simp only [up_app, Nat.reduceEqDiff, Int.reduceEq, and_true, true_and, and_self, and_false, false_and, if_true, if_false, reduceIte, k23]; omega)) (by first | omega | (simp only [up_app, Nat.reduceEqDiff, Int.reduceEq, and_true, true_and, and_self, and_false, false_and, if_true, if_false, reduceIte, k23]; omega)) (fun h279 => ?_) (fun h279 => ?_)
                  · refine f_aload_n hZ dX7_next_300 rfl ?_
                    refine f_iconst hZ dX7_next_301 ?_
                    refine pX7_170 hZ dX7_next_302 (by first | omega | (simp only [up_app, Nat.reduceEqDiff, Int.reduceEq, and_true, true_and, and_self, and_false, false_and, if_true, if_false, reduceIte, k23]; omega)) ?_
                    refine f_aload_n hZ dX7_next_305 rfl ?_
                    refine f_iload_n hZ dX7_next_306 rfl ?_
                    refine f_i2l hZ dX7_next_307 (by first | omega | (simp only [up_app, Nat.reduceEqDiff, Int.reduceEq, and_true, true_and, and_self, and_false, false_and, if_true, if_false, reduceIte, k23]; omega)) ?_
                    refine pX7_181 hZ dX7_next_308 (by first | omega | (simp only [up_app, Nat.reduceEqDiff, Int.reduceEq, and_true, true_and, and_self, and_false, false_and, if_true, if_false, reduceIte, k23]; omega)) ?_
                    refine f_aload_n hZ dX7_next_311 rfl ?_
                    refine f_dup hZ dX7_next_312 rfl ?_
                    refine gX7_160 hZ dX7_next_313 (fun r313 => ?_)
                    try simp only [up_app, Nat.reduceEqDiff, Int.reduceEq, and_true, true_and, and_self, and_false, false_and, if_true, if_false, reduceIte] at r313 ⊢
                    refine f_iconst hZ dX7_next_316 ?_
                    refine f_iadd hZ dX7_next_317 ?_
                    refine pX7_160 hZ dX7_next_318 (by first | omega | (simp only [up_app, Nat.reduceEqDiff, Int.reduceEq, and_true, true_and, and_self, and_false, false_and, if_true, if_false, reduceIte, k23]; omega)) ?_
                    exact f_retV hZ hR dX7_next_321 rfl (by first | exact nx_end ha hi (by omega) ((((hF.up (by omega)).up (by omega)).up (by omega)).up (by omega)) (by show N 59 22 = n; exact hN22) rfl k23 | (have hba := hbr5 (by omega); exact nx_sign ha hi (by omega) (by omega) (by omega) (by omega) (((((hF.up (by omega)).up (by omega)).up (by omega)).up (by omega)).up (by omega)) k23 rfl (by show a52 = B a; omega) (by show N 59 23 + 1 = a + 1; omega)) | (have hba := hbr5 (by omega); exact nx_bad ha hi (by omega) (by omega) (by omega) (by omega) ((hF.up (by omega)).up (by omega)) k23 rfl k23))
                  · refine f_iload_n hZ dX7_next_282 rfl ?_
                    refine f_bipush hZ dX7_next_283 ?_
                    refine f_ieq (tgt := 300) hZ dX7_next_285 rfl (by first | omega | (simp only [up_app, Nat.reduceEqDiff, Int.reduceEq, and_true, true_and, and_self, and_false, false_and, if_true, if_false, reduceIte, k23]; omega)) (by first | omega | (simp only [up_app, Nat.reduceEqDiff, Int.reduceEq, and_true, true_and, and_self, and_false, false_and, if_true, if_false, reduceIte, k23]; omega)) (fun h285 => ?_) (fun h285 => ?_)
                    · refine f_aload_n hZ dX7_next_300 rfl ?_
                      refine f_iconst hZ dX7_next_301 ?_
                      refine pX7_170 hZ dX7_next_302 (by first | omega | (simp only [up_app, Nat.reduceEqDiff, Int.reduceEq, and_true, true_and, and_self, and_false, false_and, if_true, if_false, reduceIte, k23]; omega)) ?_
                      refine f_aload_n hZ dX7_next_305 rfl ?_
                      refine f_iload_n hZ dX7_next_306 rfl ?_
                      refine f_i2l hZ dX7_next_307 (by first | omega | (simp only [up_app, Nat.reduceEqDiff, Int.reduceEq, and_true, true_and, and_self, and_false, false_and, if_true, if_false, reduceIte, k23]; omega)) ?_
                      refine pX7_181 hZ dX7_next_308 (by first | omega | (simp only [up_app, Nat.reduceEqDiff, Int.reduceEq, and_true, true_and, and_self, and_false, false_and, if_true, if_false, reduceIte, k23]; omega)) ?_
                      refine f_aload_n hZ dX7_next_311 rfl ?_
                      refine f_dup hZ dX7_next_312 rfl ?_
                      refine gX7_160 hZ dX7_next_313 (fun r313 => ?_)
                      try simp only [up_app, Nat.reduceEqDiff, Int.reduceEq, and_true, true_and, and_self, and_false, false_and, if_true, if_false, reduceIte] at r313 ⊢
                      refine f_iconst hZ dX7_next_316 ?_
                      refine f_iadd hZ dX7_next_317 ?_
                      refine pX7_160 hZ dX7_next_318 (by first | omega | (simp only [up_app, Nat.reduceEqDiff, Int.reduceEq, and_true, true_and, and_self, and_false, false_and, if_true, if_false, reduceIte, k23]; omega)) ?_
                      exact f_retV hZ hR dX7_next_321 rfl (by first | exact nx_end ha hi (by omega) ((((hF.up (by omega)).up (by omega)).up (by omega)).up (by omega)) (by show N 59 22 = n; exact hN22) rfl k23 | (have hba := hbr5 (by omega); exact nx_sign ha hi (by omega) (by omega) (by omega) (by omega) (((((hF.up (by omega)).up (by omega)).up (by omega)).up (by omega)).up (by omega)) k23 rfl (by show a52 = B a; omega) (by show N 59 23 + 1 = a + 1; omega)) | (have hba := hbr5 (by omega); exact nx_bad ha hi (by omega) (by omega) (by omega) (by omega) ((hF.up (by omega)).up (by omega)) k23 rfl k23))
                    · refine f_iload_n hZ dX7_next_288 rfl ?_
                      refine f_bipush hZ dX7_next_289 ?_
                      refine f_ieq (tgt := 300) hZ dX7_next_291 rfl (by first | omega | (simp only [up_app, Nat.reduceEqDiff, Int.reduceEq, and_true, true_and, and_self, and_false, false_and, if_true, if_false, reduceIte, k23]; omega)) (by first | omega | (simp only [up_app, Nat.reduceEqDiff, Int.reduceEq, and_true, true_and, and_self, and_false, false_and, if_true, if_false, reduceIte, k23]; omega)) (fun h291 => ?_) (fun h291 => ?_)
                      · refine f_aload_n hZ dX7_next_300 rfl ?_
                        refine f_iconst hZ dX7_next_301 ?_
                        refine pX7_170 hZ dX7_next_302 (by first | omega | (simp only [up_app, Nat.reduceEqDiff, Int.reduceEq, and_true, true_and, and_self, and_false, false_and, if_true, if_false, reduceIte, k23]; omega)) ?_
                        refine f_aload_n hZ dX7_next_305 rfl ?_
                        refine f_iload_n hZ dX7_next_306 rfl ?_
                        refine f_i2l hZ dX7_next_307 (by first | omega | (simp only [up_app, Nat.reduceEqDiff, Int.reduceEq, and_true, true_and, and_self, and_false, false_and, if_true, if_false, reduceIte, k23]; omega)) ?_
                        refine pX7_181 hZ dX7_next_308 (by first | omega | (simp only [up_app, Nat.reduceEqDiff, Int.reduceEq, and_true, true_and, and_self, and_false, false_and, if_true, if_false, reduceIte, k23]; omega)) ?_
                        refine f_aload_n hZ dX7_next_311 rfl ?_
                        refine f_dup hZ dX7_next_312 rfl ?_
                        refine gX7_160 hZ dX7_next_313 (fun r313 => ?_)
                        try simp only [up_app, Nat.reduceEqDiff, Int.reduceEq, and_true, true_and, and_self, and_false, false_and, if_true, if_false, reduceIte] at r313 ⊢
                        refine f_iconst hZ dX7_next_316 ?_
                        refine f_iadd hZ dX7_next_317 ?_
                        refine pX7_160 hZ dX7_next_318 (by first | omega | (simp only [up_app, Nat.reduceEqDiff, Int.reduceEq, and_true, true_and, and_self, and_false, false_and, if_true, if_false, reduceIte, k23]; omega)) ?_
                        exact f_retV hZ hR dX7_next_321 rfl (by first | exact nx_end ha hi (by omega) ((((hF.up (by omega)).up (by omega)).up (by omega)).up (by omega)) (by show N 59 22 = n; exact hN22) rfl k23 | (have hba := hbr5 (by omega); exact nx_sign ha hi (by omega) (by omega) (by omega) (by omega) (((((hF.up (by omega)).up (by omega)).up (by omega)).up (by omega)).up (by omega)) k23 rfl (by show a52 = B a; omega) (by show N 59 23 + 1 = a + 1; omega)) | (have hba := hbr5 (by omega); exact nx_bad ha hi (by omega) (by omega) (by omega) (by omega) ((hF.up (by omega)).up (by omega)) k23 rfl k23))
                      · refine f_iload_n hZ dX7_next_294 rfl ?_
                        refine f_bipush hZ dX7_next_295 ?_
                        refine f_ine (tgt := 321) hZ dX7_next_297 rfl (by first | omega | (simp only [up_app, Nat.reduceEqDiff, Int.reduceEq, and_true, true_and, and_self, and_false, false_and, if_true, if_false, reduceIte, k23]; omega)) (by first | omega | (simp only [up_app, Nat.reduceEqDiff, Int.reduceEq, and_true, true_and, and_self, and_false, false_and, if_true, if_false, reduceIte, k23]; omega)) (fun h297 => ?_) (fun h297 => ?_)
                        · exact f_retV hZ hR dX7_next_321 rfl (by first | exact nx_end ha hi (by omega) ((((hF.up (by omega)).up (by omega)).up (by omega)).up (by omega)) (by show N 59 22 = n; exact hN22) rfl k23 | (have hba := hbr5 (by omega); exact nx_sign ha hi (by omega) (by omega) (by omega) (by omega) (((((hF.up (by omega)).up (by omega)).up (by omega)).up (by omega)).up (by omega)) k23 rfl (by show a52 = B a; omega) (by show N 59 23 + 1 = a + 1; omega)) | (have hba := hbr5 (by omega); exact nx_bad ha hi (by omega) (by omega) (by omega) (by omega) ((hF.up (by omega)).up (by omega)) k23 rfl k23))
                        · refine f_aload_n hZ dX7_next_300 rfl ?_
                          refine f_iconst hZ dX7_next_301 ?_
                          refine pX7_170 hZ dX7_next_302 (by first | omega | (simp only [up_app, Nat.reduceEqDiff, Int.reduceEq, and_true, true_and, and_self, and_false, false_and, if_true, if_false, reduceIte, k23]; omega)) ?_
                          refine f_aload_n hZ dX7_next_305 rfl ?_
                          refine f_iload_n hZ dX7_next_306 rfl ?_
                          refine f_i2l hZ dX7_next_307 (by first | omega | (simp only [up_app, Nat.reduceEqDiff, Int.reduceEq, and_true, true_and, and_self, and_false, false_and, if_true, if_false, reduceIte, k23]; omega)) ?_
                          refine pX7_181 hZ dX7_next_308 (by first | omega | (simp only [up_app, Nat.reduceEqDiff, Int.reduceEq, and_true, true_and, and_self, and_false, false_and, if_true, if_false, reduceIte, k23]; omega)) ?_
                          refine f_aload_n hZ dX7_next_311 rfl ?_
                          refine f_dup hZ dX7_next_312 rfl ?_
                          refine gX7_160 hZ dX7_next_313 (fun r313 => ?_)
                          try simp only [up_app, Nat.reduceEqDiff, Int.reduceEq, and_true, true_and, and_self, and_false, false_and, if_true, if_false, reduceIte] at r313 ⊢
                          refine f_iconst hZ dX7_next_316 ?_
                          refine f_iadd hZ dX7_next_317 ?_
                          refine pX7_160 hZ dX7_next_318 (by first | omega | (simp only [up_app, Nat.reduceEqDiff, Int.reduceEq, and_true, true_and, and_self, and_false, false_and, if_true, if_false, reduceIte, k23]; omega)) ?_
                          exact f_retV hZ hR dX7_next_321 rfl (by first | exact nx_end ha hi (by omega) ((((hF.up (by omega)).up (by omega)).up (by omega)).up (by omega)) (by show N 59 22 = n; exact hN22) rfl k23 | (have hba := hbr5 (by omega); exact nx_sign ha hi (by omega) (by omega) (by omega) (by omega) (((((hF.up (by omega)).up (by omega)).up (by omega)).up (by omega)).up (by omega)) k23 rfl (by show a52 = B a; omega) (by show N 59 23 + 1 = a + 1; omega)) | (have hba := hbr5 (by omega); exact nx_bad ha hi (by omega) (by omega) (by omega) (by omega) ((hF.up (by omega)).up (by omega)) k23 rfl k23))
        · refine f_aload_n hZ dX7_next_148 rfl ?_
          refine f_iconst hZ dX7_next_149 ?_
          refine pX7_170 hZ dX7_next_150 (by first | omega | (simp only [up_app, Nat.reduceEqDiff, Int.reduceEq, and_true, true_and, and_self, and_false, false_and, if_true, if_false, reduceIte, k23]; omega)) ?_
          refine f_aload_n hZ dX7_next_153 rfl ?_
          refine f_lconst0 hZ dX7_next_154 ?_
          refine pX7_181 hZ dX7_next_155 (by first | omega | (simp only [up_app, Nat.reduceEqDiff, Int.reduceEq, and_true, true_and, and_self, and_false, false_and, if_true, if_false, reduceIte, k23]; omega)) ?_
          refine f_iconst hZ dX7_next_158 ?_
          refine f_istore_n (L' := [_, _, _]) hZ dX7_next_159 rfl rfl ?_
          refine f_forget (L' := [_, .null, _]) ⟨Or.inl rfl, Or.inr rfl, Or.inl rfl, trivial⟩ ?_
          have hba := hbr5 (by omega)
          have hh := dig1 (n - a).toNat a _ (by omega) (by omega) ((((hF.up (i := 25) (v := N 59 23) (by omega)).up (i := 24) (v := 4) (by omega)).up (i := 24) (v := 2) (by omega)).up (i := 26) (v := 0) (by omega)) k23 (by rw [up_app, if_pos ⟨rfl, rfl⟩, show (min (a - a) 4).toNat = 0 by omega]; rfl) k23 (by omega) (by omega) (by omega) (fun j j1 j2 => by omega) rfl
          rw [show a - a = 0 by omega] at hh
          exact hh
      · refine f_aload_n hZ dX7_next_95 rfl ?_
        refine f_iconst hZ dX7_next_96 ?_
        refine pX7_170 hZ dX7_next_97 (by first | omega | (simp only [up_app, Nat.reduceEqDiff, Int.reduceEq, and_true, true_and, and_self, and_false, false_and, if_true, if_false, reduceIte, k23]; omega)) ?_
        refine f_forget (L' := [_, .null, .null]) ⟨Or.inl rfl, Or.inr rfl, Or.inr rfl, trivial⟩ ?_
        have hba := hbr5 (by omega)
        exact let0 _ (((hF.up (by omega)).up (by omega)).up (by omega)) k23 rfl k23 (by omega)
    · refine f_aload_n hZ dX7_next_65 rfl ?_
      refine f_iconst hZ dX7_next_66 ?_
      refine pX7_170 hZ dX7_next_67 (by first | omega | (simp only [up_app, Nat.reduceEqDiff, Int.reduceEq, and_true, true_and, and_self, and_false, false_and, if_true, if_false, reduceIte, k23]; omega)) ?_
      refine f_aload_n hZ dX7_next_70 rfl ?_
      refine f_aload_n hZ dX7_next_71 rfl ?_
      refine gX7_154 hZ dX7_next_72 (fun r72 => ?_)
      try simp only [up_app, Nat.reduceEqDiff, Int.reduceEq, and_true, true_and, and_self, and_false, false_and, if_true, if_false, reduceIte] at r72 ⊢
      refine pX7_167 hZ dX7_next_75 (by first | omega | (simp only [up_app, Nat.reduceEqDiff, Int.reduceEq, and_true, true_and, and_self, and_false, false_and, if_true, if_false, reduceIte, k23]; omega)) ?_
      refine f_goto (tgt := 321) hZ dX7_next_78 rfl ?_
      exact f_retV hZ hR dX7_next_321 rfl (by first | exact nx_end ha hi (by omega) ((((hF.up (by omega)).up (by omega)).up (by omega)).up (by omega)) (by show N 59 22 = n; exact hN22) rfl k23 | (have hba := hbr5 (by omega); exact nx_sign ha hi (by omega) (by omega) (by omega) (by omega) (((((hF.up (by omega)).up (by omega)).up (by omega)).up (by omega)).up (by omega)) k23 rfl (by show a52 = B a; omega) (by show N 59 23 + 1 = a + 1; omega)) | (have hba := hbr5 (by omega); exact nx_bad ha hi (by omega) (by omega) (by omega) (by omega) ((hF.up (by omega)).up (by omega)) k23 rfl k23))
  have loop : ∀ (m : Nat) (i : Int) (N : fM), i + m = n → 0 ≤ i → nxF M N → N 59 23 = i → a = bhd 0 B n i → fG X mX7_next Z 0 [.ref (xa X 59), .null, .null] [] N := by
    intro m
    induction m with
    | zero =>
      intro i N him hi0 hF k23 hbh
      have hBN := hB.nx hF
      have hn := hBN.2.1.2
      have hN22 : N 59 22 = n := hBN.2.1.1
      refine f_aload_n hZ dX7_next_0 rfl ?_
      refine f_aload_n hZ dX7_next_1 rfl ?_
      refine gX7_160 hZ dX7_next_2 (fun r2 => ?_)
      refine vX7_163 hZ dX7_next_5 (t_X7_byteAt hBN (by omega)) (fun a5 M5 r5 h5 => ?_)
      obtain ⟨e5, h5⟩ := h5
      replace e5 := e5.symm
      subst e5
      rw [k23] at h5
      have hbr1 := byZ_rg hBN (i := i) (by omega)
      have hbr2 := hbr1.1
      have hbr3 := hbr1.2.1
      have hbr4 := hbr1.2.2.1
      have hbr5 := hbr1.2.2.2
      clear hbr1
      refine f_bipush hZ dX7_next_8 ?_
      refine f_ieq (tgt := 26) hZ dX7_next_10 rfl (by omega) (by omega) (fun h10 => ?_) (fun h10 => ?_)
      · refine f_aload_n hZ dX7_next_26 rfl ?_
        refine f_dup hZ dX7_next_27 rfl ?_
        refine gX7_160 hZ dX7_next_28 (fun r28 => ?_)
        refine f_iconst hZ dX7_next_31 ?_
        refine f_iadd hZ dX7_next_32 ?_
        refine pX7_160 hZ dX7_next_33 (by omega) ?_
        refine f_goto (tgt := 0) hZ dX7_next_36 rfl ?_
        exfalso; omega
      · refine f_aload_n hZ dX7_next_13 rfl ?_
        refine f_aload_n hZ dX7_next_14 rfl ?_
        refine gX7_160 hZ dX7_next_15 (fun r15 => ?_)
        refine vX7_163 hZ dX7_next_18 (t_X7_byteAt hBN (by omega)) (fun a18 M18 r18 h18 => ?_)
        obtain ⟨e18, h18⟩ := h18
        replace e18 := e18.symm
        subst e18
        rw [k23] at h18
        have hbr1 := byZ_rg hBN (i := i) (by omega)
        have hbr2 := hbr1.1
        have hbr3 := hbr1.2.1
        have hbr4 := hbr1.2.2.1
        have hbr5 := hbr1.2.2.2
        clear hbr1
        refine f_bipush hZ dX7_next_21 ?_
        refine f_ine (tgt := 39) hZ dX7_next_23 rfl (by omega) (by omega) (fun h23 => ?_) (fun h23 => ?_)
        · exact fin N hF (by rw [k23, hbh, bhd_end (by omega)])
        · refine f_aload_n hZ dX7_next_26 rfl ?_
          refine f_dup hZ dX7_next_27 rfl ?_
          refine gX7_160 hZ dX7_next_28 (fun r28 => ?_)
          refine f_iconst hZ dX7_next_31 ?_
          refine f_iadd hZ dX7_next_32 ?_
          refine pX7_160 hZ dX7_next_33 (by omega) ?_
          refine f_goto (tgt := 0) hZ dX7_next_36 rfl ?_
          exfalso; omega
    | succ m ih =>
      intro i N him hi0 hF k23 hbh
      have hBN := hB.nx hF
      have hn := hBN.2.1.2
      have hN22 : N 59 22 = n := hBN.2.1.1
      refine f_aload_n hZ dX7_next_0 rfl ?_
      refine f_aload_n hZ dX7_next_1 rfl ?_
      refine gX7_160 hZ dX7_next_2 (fun r2 => ?_)
      refine vX7_163 hZ dX7_next_5 (t_X7_byteAt hBN (by omega)) (fun a5 M5 r5 h5 => ?_)
      obtain ⟨e5, h5⟩ := h5
      replace e5 := e5.symm
      subst e5
      rw [k23] at h5
      have hbr1 := byZ_rg hBN (i := i) (by omega)
      have hbr2 := hbr1.1
      have hbr3 := hbr1.2.1
      have hbr4 := hbr1.2.2.1
      have hbr5 := hbr1.2.2.2
      clear hbr1
      refine f_bipush hZ dX7_next_8 ?_
      refine f_ieq (tgt := 26) hZ dX7_next_10 rfl (by omega) (by omega) (fun h10 => ?_) (fun h10 => ?_)
      · refine f_aload_n hZ dX7_next_26 rfl ?_
        refine f_dup hZ dX7_next_27 rfl ?_
        refine gX7_160 hZ dX7_next_28 (fun r28 => ?_)
        refine f_iconst hZ dX7_next_31 ?_
        refine f_iadd hZ dX7_next_32 ?_
        refine pX7_160 hZ dX7_next_33 (by omega) ?_
        refine f_goto (tgt := 0) hZ dX7_next_36 rfl ?_
        refine ih (i + 1) _ (by omega) (by omega) (hF.up (Or.inl rfl)) (by rw [up_app, if_pos ⟨rfl, rfl⟩, k23]) (by rw [hbh]; exact bhd_step (by omega) (show bSp (B i) by have := hbr5 (by omega); omega))
      · refine f_aload_n hZ dX7_next_13 rfl ?_
        refine f_aload_n hZ dX7_next_14 rfl ?_
        refine gX7_160 hZ dX7_next_15 (fun r15 => ?_)
        refine vX7_163 hZ dX7_next_18 (t_X7_byteAt hBN (by omega)) (fun a18 M18 r18 h18 => ?_)
        obtain ⟨e18, h18⟩ := h18
        replace e18 := e18.symm
        subst e18
        rw [k23] at h18
        have hbr1 := byZ_rg hBN (i := i) (by omega)
        have hbr2 := hbr1.1
        have hbr3 := hbr1.2.1
        have hbr4 := hbr1.2.2.1
        have hbr5 := hbr1.2.2.2
        clear hbr1
        refine f_bipush hZ dX7_next_21 ?_
        refine f_ine (tgt := 39) hZ dX7_next_23 rfl (by omega) (by omega) (fun h23 => ?_) (fun h23 => ?_)
        · exact fin N hF (by rw [k23, hbh, bhd_stop (fun z => by have z : bSp (B i) := z; have := hbr5 (by omega); omega)])
        · refine f_aload_n hZ dX7_next_26 rfl ?_
          refine f_dup hZ dX7_next_27 rfl ?_
          refine gX7_160 hZ dX7_next_28 (fun r28 => ?_)
          refine f_iconst hZ dX7_next_31 ?_
          refine f_iadd hZ dX7_next_32 ?_
          refine pX7_160 hZ dX7_next_33 (by omega) ?_
          refine f_goto (tgt := 0) hZ dX7_next_36 rfl ?_
          refine ih (i + 1) _ (by omega) (by omega) (hF.up (Or.inl rfl)) (by rw [up_app, if_pos ⟨rfl, rfl⟩, k23]) (by rw [hbh]; exact bhd_step (by omega) (show bSp (B i) by have := hbr5 (by omega); omega))
  exact loop (n - M 59 23).toNat (M 59 23) M (by omega) (by omega) nxF.refl rfl ha

