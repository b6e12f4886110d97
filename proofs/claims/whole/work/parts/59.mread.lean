/-! the model's part, read -/
section Pr
variable {B : Int → Int} {n t o : Int} {e : pE} {M N K : fM} {r : Int} {x : pT} {f : pT → pE}
theorem mS.bad (h : mS B n t o e M) (hb : M 59 28 ≠ 0) : ∃ p, e = .error p ∧ M 59 28 = 1 ∧ M 59 29 = p ∧ 0 ≤ p ∧ p ≤ n := by
  obtain ⟨_, hc⟩ := h
  cases e with
  | error p =>
    obtain ⟨c1, c2⟩ := hc
    rcases c2 with z | z
    · exact ⟨p, rfl, z.1, z.2, c1.1, c1.2⟩
    · exact absurd z.1 hb
  | ok x => exact absurd hc.1 hb
theorem AQ_bad (h : mS B n t o e M) (hb : M 59 28 ≠ 0) : AQ B n t o f e M r M := by
  obtain ⟨p, rfl, _⟩ := h.bad hb
  exact ⟨h, mF.refl, fun z hz => by cases hz⟩
theorem expc_hit {w : Int} (hx : ptk x = w) : eb (.ok x) (expc B n w) = adv B n x := if_pos hx
theorem expc_no {w : Int} (h : mS B n t o (eb e fun x => .error (pat x)) K) (hno : ¬ ∃ x, e = .ok x ∧ ptk x = w) : mS B n t o (eb e (expc B n w)) K := by
  cases e with
  | error p => exact h
  | ok x =>
    have h1 : eb (.ok x) (expc B n w) = .error (pat x) := if_neg (fun z => hno ⟨x, rfl, z⟩)
    rw [h1]; exact h
end Pr
set_option maxRecDepth 20000 in
set_option maxHeartbeats 4000000 in
theorem t_X7_part {X : fX} {B : Int → Int} {n t w a : Int} {d : Nat} {e : pE} {M : fM} (hw : 260 ≤ w ∧ w ≤ 262) (hS : mS B n t 0 e M) (hW : WE n e) (ha : hz a (∃ x, e = .ok x ∧ ptk x = w ∧ pvl x = -1)) (har : rg a) : fC X (d + 46) mX7_part [.ref (xa X 59), .int (iv a)] M (QI fun r K => mS B n t 0 (eb (eb (eb e (expc B n w)) (eth5 B n)) (expc B n 59)) K ∧ mF M K ∧ ∀ z, eb (eb e (expc B n w)) (eth5 B n) = .ok z → r = pv z (nmM M)) := by
  refine fC.of (L := [_, _, _]) (by decide +kernel) rfl (Nat.le_of_ble_eq_true rfl) (fun Z hZ hR => ?_)
  have tail : ∀ (N0 N : fM) (v : Int), rg v → mF M N0 → AQ B n t 0 (eth5 B n) (eb e (expc B n w)) N0 v N → fG X mX7_part Z 34 [.ref (xa X 59), .int (iv a), .null] [.int (iv v)] N := by
    intro N0 N v hrv hF0 hA
    refine f_istore_n (L' := [_, _, _]) hZ dX7_part_34 rfl rfl ?_
    refine f_aload_n hZ dX7_part_35 rfl ?_
    refine f_bipush hZ dX7_part_36 ?_
    refine vX7_229 hZ dX7_part_38 (t_X7_isSign (by omega) hA.1) (fun a38 M38 r38 h38 => ?_)
    obtain ⟨e38, h38⟩ := h38
    replace e38 := e38.symm
    subst e38
    replace h38 : hz a38 _ := h38
    refine f_ne (tgt := 48) hZ dX7_part_41 rfl (by omega) (fun h41 => ?_) (fun h41 => ?_)
    · have hnz : ¬ a38 = 0 := by omega
      obtain ⟨x, hxe, hx1⟩ := hz_t h38 hnz
      have hRx := hA.1
      rw [hxe] at hRx
      have hb0 : N 59 28 = 0 := hRx.tok.2.2.2
      refine f_aload_n hZ dX7_part_48 rfl ?_
      refine gX7_187 hZ dX7_part_49 (fun r49 => ?_)
      refine f_ne (tgt := 59) hZ dX7_part_52 rfl (by omega) (fun h52 => ?_) (fun h52 => ?_)
      · exfalso; omega
      · refine f_aload_n hZ dX7_part_55 rfl ?_
        refine vX7_204 hZ dX7_part_56 (c_next hRx (by omega)) (fun M56 h56 => ?_)
        refine f_iload_n hZ dX7_part_59 rfl ?_
        exact f_retI hZ hR dX7_part_60 rfl (by omega) (by exact ⟨by rw [hxe, expc_hit hx1]; exact h56.1, (hF0.trans hA.2.1).trans h56.2, fun z hz => by rw [← nmM_eq hF0]; exact hA.2.2 z hz⟩)
    · refine f_aload_n hZ dX7_part_44 rfl ?_
      refine vX7_201 hZ dX7_part_45 (c_mfail hA.1) (fun M45 h45 => ?_)
      have hz38 : a38 = 0 := by omega
      have hn59 := hz_f h38 hz38
      have hb1 : M45 59 28 ≠ 0 := h45.2.2
      refine f_aload_n hZ dX7_part_48 rfl ?_
      refine gX7_187 hZ dX7_part_49 (fun r49 => ?_)
      refine f_ne (tgt := 59) hZ dX7_part_52 rfl (by omega) (fun h52 => ?_) (fun h52 => ?_)
      · refine f_iload_n hZ dX7_part_59 rfl ?_
        exact f_retI hZ hR dX7_part_60 rfl (by omega) (by exact ⟨expc_no h45.1 hn59, (hF0.trans hA.2.1).trans h45.2.1, fun z hz => by rw [← nmM_eq hF0]; exact hA.2.2 z hz⟩)
      · exfalso; omega
  refine f_iload_n hZ dX7_part_0 rfl ?_
  refine f_ne (tgt := 8) hZ dX7_part_1 rfl (by omega) (fun h1 => ?_) (fun h1 => ?_)
  · have hnz : ¬ a = 0 := by omega
    obtain ⟨x, rfl, hx1, _⟩ := hz_t ha hnz
    have hb0 : M 59 28 = 0 := hS.tok.2.2.2
    refine f_aload_n hZ dX7_part_8 rfl ?_
    refine gX7_187 hZ dX7_part_9 (fun r9 => ?_)
    refine f_ne (tgt := 19) hZ dX7_part_12 rfl (by omega) (fun h12 => ?_) (fun h12 => ?_)
    · exfalso; omega
    · refine f_aload_n hZ dX7_part_15 rfl ?_
      refine vX7_204 hZ dX7_part_16 (c_next hS (by omega)) (fun M16 h16 => ?_)
      have h16s := h16.1
      rw [← expc_hit hx1] at h16s
      refine f_aload_n hZ dX7_part_19 rfl ?_
      refine gX7_187 hZ dX7_part_20 (fun r20 => ?_)
      try simp only [up_app, Nat.reduceEqDiff, Nat.reduceEqDiff, Int.reduceEq, and_true, true_and, and_false, false_and, if_true, if_false, reduceIte] at r20 ⊢
      refine f_eq (tgt := 30) hZ dX7_part_23 rfl (by omega) (fun h23 => ?_) (fun h23 => ?_)
      · refine f_aload_n hZ dX7_part_30 rfl ?_
        refine vX7_240 hZ dX7_part_31 ((t_X7_all (X := X) (B := B) (t := t) (n := n) 5 0 rfl (by omega) d).2.2 _ _ h16s (expc_we hW)) (fun a31 M31 r31 h31 => ?_)
        exact tail _ _ _ (by omega) h16.2 h31
      · refine f_iconst hZ dX7_part_26 ?_
        refine f_goto (tgt := 34) hZ dX7_part_27 rfl ?_
        exact tail _ _ 0 (by omega) h16.2 (AQ_bad h16s (by omega))
  · refine f_aload_n hZ dX7_part_4 rfl ?_
    refine vX7_201 hZ dX7_part_5 (c_mfail hS) (fun M5 h5 => ?_)
    have hz0 : a = 0 := by omega
    have hno := hz_f ha hz0
    have h5s := expc_no (w := w) h5.1 (fun ⟨x, z1, z2⟩ => hno ⟨x, z1, z2, hS.wv z1 (by omega)⟩)
    have hb1 : M5 59 28 ≠ 0 := h5.2.2
    refine f_aload_n hZ dX7_part_8 rfl ?_
    refine gX7_187 hZ dX7_part_9 (fun r9 => ?_)
    refine f_ne (tgt := 19) hZ dX7_part_12 rfl (by omega) (fun h12 => ?_) (fun h12 => ?_)
    · refine f_aload_n hZ dX7_part_19 rfl ?_
      refine gX7_187 hZ dX7_part_20 (fun r20 => ?_)
      refine f_eq (tgt := 30) hZ dX7_part_23 rfl (by omega) (fun h23 => ?_) (fun h23 => ?_)
      · exfalso; omega
      · refine f_iconst hZ dX7_part_26 ?_
        refine f_goto (tgt := 34) hZ dX7_part_27 rfl ?_
        exact tail _ _ 0 (by omega) h5.2.1 (AQ_bad h5s (by omega))
    · exfalso; omega

def rF7 (M K : fM) : Prop := (∀ c, c ≠ 59 → K c = M c) ∧ ∀ k, (k < 21 ∨ 29 < k) → K 59 k = M 59 k
theorem mF.rF7 {M K : fM} (h : mF M K) : rF7 M K := ⟨h.1, fun k a => h.2 k (by omega)⟩
theorem rF7.trans {M N K : fM} (h : rF7 M N) (h2 : rF7 N K) : rF7 M K := ⟨fun c a => by rw [h2.1 c a, h.1 c a], fun k a => by rw [h2.2 k a, h.2 k a]⟩
def rdN (B : Int → Int) (n : Int) (M : fM) (k r : Int) (K : fM) : Prop := rF7 M K ∧ ((∃ p, rdF B n = .error p ∧ (0 ≤ p ∧ p ≤ n) ∧ K 59 28 ≠ 0 ∧ K 59 29 = p) ∨ ((∃ y, rdF B n = .ok y) ∧ K 59 28 = 0 ∧ r = vtx B n k (nmM M)))
section Rn
variable {B : Int → Int} {n t : Int} {M N K : fM}
theorem mS_start (h : mB B n t M) (h3 : M 59 23 = 0) (h7 : M 59 27 = 0) (h8 : M 59 28 = 0) (ha : nxP B n M K) : mS B n t 0 (rd0 B n) K ∧ mF M K := by
  obtain ⟨a1, a2, a3, a4, a5⟩ := ha
  rw [h3] at a3 a4 a5
  have hn := h.2.1.2
  have hlex := lex_wf (B := B) (n := n) (i := 0) hn.1
  refine ⟨⟨⟨h.nx a1, by rw [a1.2 27 (by decide) (by decide) (by decide) (by decide)]; exact ⟨h7, by decide⟩, a2, by rw [a3]; omega⟩, ?_⟩, a1.mF⟩
  unfold rd0 adv
  by_cases hb : (lex B n 0).2.2.1 = 259
  · rw [show pnx ((0, 0, 0, 0, [], fun _ => 0) : pT) = 0 from rfl, if_pos hb]
    rw [hb] at a4
    exact ⟨⟨by omega, by omega⟩, Or.inr ⟨by rw [a1.2 28 (by decide) (by decide) (by decide) (by decide)]; exact h8, a3, _, a4⟩⟩
  · rw [show pnx ((0, 0, 0, 0, [], fun _ => 0) : pT) = 0 from rfl, if_neg hb]
    exact ⟨by rw [a1.2 28 (by decide) (by decide) (by decide) (by decide)]; exact h8, ⟨by show 0 ≤ (lex B n 0).1; omega, hlex.1.2, hb⟩, a3, a4, fun q => a5 q hb⟩
/-- k sections are read, the last says v -/
def rdI (B : Int → Int) (n t : Int) (M : fM) (k : Nat) (v : Int) (N : fM) : Prop := mS B n t 0 (rdP B n (k + 1)) N ∧ rF7 M N ∧ ∀ z, rdZ B n (rdP B n k) k = .ok z → v = pv z (nmM M)
theorem nmM_r (h : rF7 M N) : nmM N = nmM M := by
  unfold nmM
  rw [h.2 15 (by omega), h.2 16 (by omega), h.2 17 (by omega), h.2 18 (by omega), h.2 19 (by omega), h.2 20 (by omega)]
theorem rdI.bad {k : Nat} {v : Int} (h : rdI B n t M k v N) (hb : N 59 28 ≠ 0) : rdI B n t M (k + 1) 0 N := by
  obtain ⟨h1, h2, h3⟩ := h
  obtain ⟨p, hp, _⟩ := h1.bad hb
  refine ⟨?_, h2, fun z hz => ?_⟩
  · show mS B n t 0 (rdW B n (rdP B n (k + 1)) _) N
    rw [hp] at h1 ⊢; exact h1
  · rw [hp] at hz; cases hz
theorem rdF_at {y : pT} (h : rdF B n = .ok y) : (∃ z, rdZ B n (rdP B n 0) 0 = .ok z) ∧ (∃ z, rdZ B n (rdP B n 1) 1 = .ok z) ∧ ∃ z, rdZ B n (rdP B n 2) 2 = .ok z := by
  obtain ⟨y3, h3, _⟩ := eb_inv h
  obtain ⟨z2, h2, _⟩ := eb_inv h3
  obtain ⟨u2, g2, _⟩ := eb_inv h2
  obtain ⟨y2, q2, _⟩ := eb_inv g2
  obtain ⟨z1, h1, _⟩ := eb_inv q2
  obtain ⟨u1, g1, _⟩ := eb_inv h1
  obtain ⟨y1, q1, _⟩ := eb_inv g1
  obtain ⟨z0, h0, _⟩ := eb_inv q1
  exact ⟨⟨z0, h0⟩, ⟨z1, h1⟩, ⟨z2, h2⟩⟩
theorem vtx_at {k : Int} {z : pT} (h : rdZ B n (rdP B n k.toNat) k = .ok z) : vtx B n k = pv z := by
  unfold vtx; rw [h]
theorem rd_end {p q r k v : Int} (hp : ∀ z, rdZ B n (rdP B n 0) 0 = .ok z → p = pv z (nmM M)) (hq : ∀ z, rdZ B n (rdP B n 1) 1 = .ok z → q = pv z (nmM M)) (hr : ∀ z, rdZ B n (rdP B n 2) 2 = .ok z → r = pv z (nmM M)) (hv : (k = 0 ∧ v = p) ∨ (k = 1 ∧ v = q) ∨ (k = 2 ∧ v = r)) (hK : rF7 M K ∧ ((∃ p, rdF B n = .error p ∧ (0 ≤ p ∧ p ≤ n) ∧ K 59 28 ≠ 0 ∧ K 59 29 = p) ∨ ((∃ y, rdF B n = .ok y) ∧ K 59 28 = 0))) : rdN B n M k v K := by
  obtain ⟨hF, hK⟩ := hK
  refine ⟨hF, ?_⟩
  rcases hK with hK | ⟨⟨y, hy⟩, h0⟩
  · exact Or.inl hK
  · obtain ⟨⟨z0, g0⟩, ⟨z1, g1⟩, ⟨z2, g2⟩⟩ := rdF_at hy
    refine Or.inr ⟨⟨y, hy⟩, h0, ?_⟩
    rcases hv with ⟨rfl, rfl⟩ | ⟨rfl, rfl⟩ | ⟨rfl, rfl⟩
    · rw [vtx_at (k := 0) g0]; exact hp z0 g0
    · rw [vtx_at (k := 1) g1]; exact hq z1 g1
    · rw [vtx_at (k := 2) g2]; exact hr z2 g2
theorem rd_bad {v : Int} (h : rdI B n t M 2 v N) (hb : N 59 28 ≠ 0) : rF7 M N ∧ ((∃ p, rdF B n = .error p ∧ (0 ≤ p ∧ p ≤ n) ∧ N 59 28 ≠ 0 ∧ N 59 29 = p) ∨ ((∃ y, rdF B n = .ok y) ∧ N 59 28 = 0)) := by
  obtain ⟨h1, h2, h3⟩ := h
  obtain ⟨p, hp, b1, b2, b3, b4⟩ := h1.bad hb
  refine ⟨h2, Or.inl ⟨p, ?_, ⟨b3, b4⟩, hb, b2⟩⟩
  unfold rdF
  rw [show rd3 B n = .error p from hp]; rfl
theorem rd_ok {v : Int} (h : rdI B n t M 2 v N) (hb : N 59 28 = 0) (h4 : N 59 24 = 0) : rF7 M N ∧ ((∃ p, rdF B n = .error p ∧ (0 ≤ p ∧ p ≤ n) ∧ N 59 28 ≠ 0 ∧ N 59 29 = p) ∨ ((∃ y, rdF B n = .ok y) ∧ N 59 28 = 0)) := by
  obtain ⟨h1, h2, h3⟩ := h
  refine ⟨h2, Or.inr ⟨?_, hb⟩⟩
  have h1 : mS B n t 0 (rd3 B n) N := h1
  unfold rdF
  cases hE : rd3 B n with
  | ok x =>
    rw [hE] at h1
    exact ⟨x, if_pos (h1.tok.2.2.1.mp h4)⟩
  | error p =>
    exfalso
    rw [hE] at h1
    obtain ⟨_, c1, c2⟩ := h1
    rcases c2 with z | ⟨z1, z2, vl, z⟩
    · omega
    · rcases z with y | y | y | y | y
      · omega
      · omega
      · omega
      · omega
      · omega
theorem rd_fail {v : Int} (h : rdI B n t M 2 v N) (h4 : ¬ (N 59 28 = 0 ∧ N 59 24 = 0)) (hf : mS B n t 0 (eb (rdP B n 3) fun x => .error (pat x)) K ∧ mF N K ∧ K 59 28 ≠ 0) : rF7 M K ∧ ((∃ p, rdF B n = .error p ∧ (0 ≤ p ∧ p ≤ n) ∧ K 59 28 ≠ 0 ∧ K 59 29 = p) ∨ ((∃ y, rdF B n = .ok y) ∧ K 59 28 = 0)) := by
  obtain ⟨h1, h2, h3⟩ := h
  obtain ⟨p, hp, b1, b2, b3, b4⟩ := hf.1.bad hf.2.2
  refine ⟨h2.trans hf.2.1.rF7, Or.inl ⟨p, ?_, ⟨b3, b4⟩, hf.2.2, b2⟩⟩
  have h1 : mS B n t 0 (rd3 B n) N := h1
  have hp : eb (rd3 B n) (fun x => .error (pat x)) = .error p := hp
  unfold rdF
  cases hE : rd3 B n with
  | ok x =>
    rw [hE] at h1 hp
    have t1 := h1.tok
    rw [← hp]
    exact if_neg (fun z => h4 ⟨t1.2.2.2, t1.2.2.1.mpr z⟩)
  | error p =>
    rw [hE] at hp; exact hp
end Rn
set_option maxRecDepth 20000 in
set_option maxHeartbeats 4000000 in
theorem t_X7_read {X : fX} {M : fM} {B : Int → Int} {n t k : Int} {d : Nat} (ht : 0 ≤ t ∧ t < 6) (hk : 0 ≤ k ∧ k ≤ 2) (hn1 : M 61 t = n) (hn : 0 ≤ n ∧ n ≤ 160) (hB : ∀ i, 0 ≤ i → i < n → M 60 (160 * t + i) = B i) (hB2 : ∀ i, 0 ≤ i → i < n → 0 ≤ B i ∧ B i ≤ 255) : fC X (d + 47) mX7_read [.ref (xa X 59), .int (iv t), .int (iv k)] M (QI fun r K => rdN B n M k r K) := by
  refine fC.of (L := [_, _, _, _, _, _]) (by decide +kernel) rfl (Nat.le_of_ble_eq_true rfl) (fun Z hZ hR => ?_)
  have k59 : ∀ (N : fM) (p : Int), rg p → rdI B n t M 0 p N → fG X mX7_read Z 59 [.ref (xa X 59), .int (iv t), .int (iv k), .null, .null, .null] [.int (iv p)] N := by
    intro N p hrp hp
    have k92 : ∀ (N : fM) (q : Int), rg q → rdI B n t M 1 q N → fG X mX7_read Z 92 [.ref (xa X 59), .int (iv t), .int (iv k), .int (iv p), .null, .null] [.int (iv q)] N := by
      intro N q hrq hq
      have k126 : ∀ (N : fM) (r : Int), rg r → rdI B n t M 2 r N → fG X mX7_read Z 126 [.ref (xa X 59), .int (iv t), .int (iv k), .int (iv p), .int (iv q), .null] [.int (iv r)] N := by
        intro N r hrr hr
        have k146 : ∀ (K : fM), (rF7 M K ∧ ((∃ p, rdF B n = .error p ∧ (0 ≤ p ∧ p ≤ n) ∧ K 59 28 ≠ 0 ∧ K 59 29 = p) ∨ ((∃ y, rdF B n = .ok y) ∧ K 59 28 = 0))) → fG X mX7_read Z 146 [.ref (xa X 59), .int (iv t), .int (iv k), .int (iv p), .int (iv q), .int (iv r)] [] K := by
          intro K hK
          refine f_iload_n hZ dX7_read_146 rfl ?_
          refine f_ne (tgt := 154) hZ dX7_read_147 rfl (by omega) (fun h147 => ?_) (fun h147 => ?_)
          · refine f_iload_n hZ dX7_read_154 rfl ?_
            refine f_iconst hZ dX7_read_155 ?_
            refine f_ine (tgt := 164) hZ dX7_read_156 rfl (by omega) (by omega) (fun h156 => ?_) (fun h156 => ?_)
            · refine f_iload hZ dX7_read_164 rfl ?_
              exact f_retI hZ hR dX7_read_166 rfl (by omega) (by exact rd_end hp.2.2 hq.2.2 hr.2.2 (by first | exact Or.inl ⟨by omega, rfl⟩ | exact Or.inr (Or.inl ⟨by omega, rfl⟩) | exact Or.inr (Or.inr ⟨by omega, rfl⟩)) hK)
            · refine f_iload hZ dX7_read_159 rfl ?_
              refine f_goto (tgt := 166) hZ dX7_read_161 rfl ?_
              exact f_retI hZ hR dX7_read_166 rfl (by omega) (by exact rd_end hp.2.2 hq.2.2 hr.2.2 (by first | exact Or.inl ⟨by omega, rfl⟩ | exact Or.inr (Or.inl ⟨by omega, rfl⟩) | exact Or.inr (Or.inr ⟨by omega, rfl⟩)) hK)
          · refine f_iload_n hZ dX7_read_150 rfl ?_
            refine f_goto (tgt := 166) hZ dX7_read_151 rfl ?_
            exact f_retI hZ hR dX7_read_166 rfl (by omega) (by exact rd_end hp.2.2 hq.2.2 hr.2.2 (by first | exact Or.inl ⟨by omega, rfl⟩ | exact Or.inr (Or.inl ⟨by omega, rfl⟩) | exact Or.inr (Or.inr ⟨by omega, rfl⟩)) hK)
        refine f_istore (L' := [_, _, _, _, _, _]) hZ dX7_read_126 rfl rfl ?_
        refine f_aload_n hZ dX7_read_128 rfl ?_
        refine gX7_187 hZ dX7_read_129 (fun r129 => ?_)
        refine f_ne (tgt := 146) hZ dX7_read_132 rfl (by omega) (fun h132 => ?_) (fun h132 => ?_)
        · exact k146 _ (rd_bad hr (by omega))
        · refine f_aload_n hZ dX7_read_135 rfl ?_
          refine gX7_170 hZ dX7_read_136 (fun r136 => ?_)
          refine f_eq (tgt := 146) hZ dX7_read_139 rfl (by omega) (fun h139 => ?_) (fun h139 => ?_)
          · exact k146 _ (rd_ok hr (by omega) (by omega))
          · refine f_aload_n hZ dX7_read_142 rfl ?_
            refine vX7_201 hZ dX7_read_143 (c_mfail hr.1) (fun M143 h143 => ?_)
            exact k146 _ (rd_fail hr (by omega) h143)
      refine f_istore (L' := [_, _, _, _, _, _]) hZ dX7_read_92 rfl rfl ?_
      refine f_aload_n hZ dX7_read_94 rfl ?_
      refine gX7_187 hZ dX7_read_95 (fun r95 => ?_)
      refine f_eq (tgt := 105) hZ dX7_read_98 rfl (by omega) (fun h98 => ?_) (fun h98 => ?_)
      · refine f_aload_n hZ dX7_read_105 rfl ?_
        refine f_aload_n hZ dX7_read_106 rfl ?_
        refine f_bipush hZ dX7_read_107 ?_
        refine f_bipush hZ dX7_read_109 ?_
        refine f_bipush hZ dX7_read_111 ?_
        refine f_bipush hZ dX7_read_113 ?_
        refine f_bipush hZ dX7_read_115 ?_
        refine f_iconst hZ dX7_read_117 ?_
        refine f_iconst hZ dX7_read_118 ?_
        refine f_iconst hZ dX7_read_119 ?_
        refine vX7_207 hZ dX7_read_120 (t_w8 hq.1) (fun a120 M120 r120 h120 => ?_)
        obtain ⟨e120, h120⟩ := h120
        replace e120 := e120.symm
        subst e120
        replace h120 : hz a120 _ := h120
        refine vX7_262 hZ dX7_read_123 (t_X7_part (w := 262) (d := d) (by omega) hq.1 (rdP_we hn.1 _) h120 (by omega)) (fun a123 M123 r123 h123 => ?_)
        exact k126 _ _ (by omega) ⟨h123.1, hq.2.1.trans h123.2.1.rF7, fun z hz => by rw [← nmM_r hq.2.1]; exact h123.2.2 z hz⟩
      · refine f_iconst hZ dX7_read_101 ?_
        refine f_goto (tgt := 126) hZ dX7_read_102 rfl ?_
        exact k126 _ 0 (by omega) (hq.bad (by omega))
    refine f_istore_n (L' := [_, _, _, _, _, _]) hZ dX7_read_59 rfl rfl ?_
    refine f_aload_n hZ dX7_read_60 rfl ?_
    refine gX7_187 hZ dX7_read_61 (fun r61 => ?_)
    refine f_eq (tgt := 71) hZ dX7_read_64 rfl (by omega) (fun h64 => ?_) (fun h64 => ?_)
    · refine f_aload_n hZ dX7_read_71 rfl ?_
      refine f_aload_n hZ dX7_read_72 rfl ?_
      refine f_bipush hZ dX7_read_73 ?_
      refine f_bipush hZ dX7_read_75 ?_
      refine f_bipush hZ dX7_read_77 ?_
      refine f_bipush hZ dX7_read_79 ?_
      refine f_bipush hZ dX7_read_81 ?_
      refine f_iconst hZ dX7_read_83 ?_
      refine f_iconst hZ dX7_read_84 ?_
      refine f_iconst hZ dX7_read_85 ?_
      refine vX7_207 hZ dX7_read_86 (t_w7 hp.1) (fun a86 M86 r86 h86 => ?_)
      obtain ⟨e86, h86⟩ := h86
      replace e86 := e86.symm
      subst e86
      replace h86 : hz a86 _ := h86
      refine vX7_262 hZ dX7_read_89 (t_X7_part (w := 261) (d := d) (by omega) hp.1 (rdP_we hn.1 _) h86 (by omega)) (fun a89 M89 r89 h89 => ?_)
      exact k92 _ _ (by omega) ⟨h89.1, hp.2.1.trans h89.2.1.rF7, fun z hz => by rw [← nmM_r hp.2.1]; exact h89.2.2 z hz⟩
    · refine f_iconst hZ dX7_read_67 ?_
      refine f_goto (tgt := 92) hZ dX7_read_68 rfl ?_
      exact k92 _ 0 (by omega) (hp.bad (by omega))
  refine f_aload_n hZ dX7_read_0 rfl ?_
  refine f_sipush hZ dX7_read_1 ?_
  refine f_iload_n hZ dX7_read_4 rfl ?_
  refine f_imul hZ dX7_read_5 ?_
  refine pX7_157 hZ dX7_read_6 (by first | omega | (simp only [up_app, Nat.reduceEqDiff, Int.reduceEq, and_true, true_and, and_self, and_false, false_and, if_true, if_false, reduceIte]; omega)) ?_
  refine f_aload_n hZ dX7_read_9 rfl ?_
  refine f_aload_n hZ dX7_read_10 rfl ?_
  refine gX7_17 hZ dX7_read_11 ?_
  refine f_iload_n hZ dX7_read_14 rfl ?_
  refine f_iaload hZ dX7_read_15 (by first | rfl | exact hC.t1 | exact hC.t2 | exact hC.t3 | exact hC.t4 | exact hC.t5) (by first | rfl | exact hC.l1 | exact hC.l2 | exact hC.l3 | exact hC.l4 | exact hC.l5) (by first | omega | (simp only [up_app, Nat.reduceEqDiff, Int.reduceEq, and_true, true_and, and_self, and_false, false_and, if_true, if_false, reduceIte]; omega)) (by first | omega | (simp only [up_app, Nat.reduceEqDiff, Int.reduceEq, and_true, true_and, and_self, and_false, false_and, if_true, if_false, reduceIte]; omega)) (fun r15 => ?_)
  try simp only [up_app, Nat.reduceEqDiff, Int.reduceEq, and_true, true_and, and_self, and_false, false_and, if_true, if_false, reduceIte] at r15 ⊢
  rw [hn1]
  refine pX7_154 hZ dX7_read_16 (by first | omega | (simp only [up_app, Nat.reduceEqDiff, Int.reduceEq, and_true, true_and, and_self, and_false, false_and, if_true, if_false, reduceIte]; omega)) ?_
  refine f_aload_n hZ dX7_read_19 rfl ?_
  refine f_iconst hZ dX7_read_20 ?_
  refine pX7_160 hZ dX7_read_21 (by first | omega | (simp only [up_app, Nat.reduceEqDiff, Int.reduceEq, and_true, true_and, and_self, and_false, false_and, if_true, if_false, reduceIte]; omega)) ?_
  refine f_aload_n hZ dX7_read_24 rfl ?_
  refine f_iconst hZ dX7_read_25 ?_
  refine pX7_198 hZ dX7_read_26 (by first | omega | (simp only [up_app, Nat.reduceEqDiff, Int.reduceEq, and_true, true_and, and_self, and_false, false_and, if_true, if_false, reduceIte]; omega)) ?_
  refine f_aload_n hZ dX7_read_29 rfl ?_
  refine f_iconst hZ dX7_read_30 ?_
  refine pX7_187 hZ dX7_read_31 (by first | omega | (simp only [up_app, Nat.reduceEqDiff, Int.reduceEq, and_true, true_and, and_self, and_false, false_and, if_true, if_false, reduceIte]; omega)) ?_
  refine f_aload_n hZ dX7_read_34 rfl ?_
  have hB0 : mB B n t (up (up (up (up (up M 59 21 (160 * t)) 59 22 n) 59 23 0) 59 27 0) 59 28 0) := ⟨⟨rfl, ht⟩, ⟨rfl, hn⟩, hB, hB2⟩
  have hF0 : rF7 M (up (up (up (up (up M 59 21 (160 * t)) 59 22 n) 59 23 0) 59 27 0) 59 28 0) := ⟨fun c hc => by rw [up_ne hc, up_ne hc, up_ne hc, up_ne hc, up_ne hc], fun k hk => by rw [up_app, if_neg (by omega), up_app, if_neg (by omega), up_app, if_neg (by omega), up_app, if_neg (by omega), up_app, if_neg (by omega)]⟩
  refine vX7_204 hZ dX7_read_35 (t_X7_next hB0 ⟨Int.le_refl 0, hn.1⟩) (fun M35 h35 => ?_)
  have hS0 := mS_start hB0 rfl rfl rfl h35
  refine f_aload_n hZ dX7_read_38 rfl ?_
  refine f_aload_n hZ dX7_read_39 rfl ?_
  refine f_bipush hZ dX7_read_40 ?_
  refine f_bipush hZ dX7_read_42 ?_
  refine f_bipush hZ dX7_read_44 ?_
  refine f_bipush hZ dX7_read_46 ?_
  refine f_bipush hZ dX7_read_48 ?_
  refine f_iconst hZ dX7_read_50 ?_
  refine f_iconst hZ dX7_read_51 ?_
  refine f_iconst hZ dX7_read_52 ?_
  refine vX7_207 hZ dX7_read_53 (t_w6 hS0.1) (fun a53 M53 r53 h53 => ?_)
  obtain ⟨e53, h53⟩ := h53
  replace e53 := e53.symm
  subst e53
  replace h53 : hz a53 _ := h53
  refine vX7_262 hZ dX7_read_56 (t_X7_part (w := 260) (d := d) (by omega) hS0.1 (rdP_we hn.1 0) h53 (by omega)) (fun a56 M56 r56 h56 => ?_)
  exact k59 _ _ (by omega) ⟨h56.1, (hF0.trans hS0.2.rF7).trans h56.2.1.rF7, fun z hz => by rw [← nmM_r (hF0.trans hS0.2.rF7)]; exact h56.2.2 z hz⟩

