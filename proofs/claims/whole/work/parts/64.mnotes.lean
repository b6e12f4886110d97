/-! the model's notes -/
def noI (M : fM) (x e c g : Int) (N : fM) : Prop := (∀ k, (k < 73 ∨ 76 < k) → N k = M k) ∧ nwf N ∧ (∀ y, y ≠ x → vE N y = vE M y ∧ vC N y = vC M y) ∧ vE N x = min (vE M x) (e * 10000 + g) ∧ vC N x = min (vC M x) c
theorem no_mk {M N : fM} {x e c g : Int} (hn : nwf M) (hx : 0 ≤ x ∧ x ≤ 400) (he : 0 ≤ e ∧ e ≤ 40) (hc : 0 ≤ c ∧ c ≤ 3960) (hg : 0 ≤ g ∧ g ≤ 2222) (h1 : ∀ k, (k < 73 ∨ 76 < k) → N k = M k) (h2 : ∀ y, y ≠ x → N 73 y = M 73 y ∧ N 74 y = M 74 y ∧ N 75 y = M 75 y ∧ N 76 y = M 76 y) (h3 : N 73 x = 1) (hE : (N 74 x = e ∧ N 76 x = g ∧ (M 73 x = 0 ∨ e < M 74 x ∨ (e = M 74 x ∧ g < M 76 x))) ∨ (N 74 x = M 74 x ∧ N 76 x = M 76 x ∧ M 73 x ≠ 0 ∧ (M 74 x < e ∨ (e = M 74 x ∧ M 76 x ≤ g)))) (hC : (N 75 x = c ∧ (M 73 x = 0 ∨ c < M 75 x)) ∨ (N 75 x = M 75 x ∧ M 73 x ≠ 0 ∧ M 75 x ≤ c)) : noI M x e c g N := by
  have hnx := hn x hx.1 hx.2
  refine ⟨h1, fun y y0 y1 => ?_, fun y hy => ?_, ?_, ?_⟩
  · by_cases hy : y = x
    · subst hy
      refine Or.inr ⟨h3, ?_⟩
      rcases hE with ⟨a, b, -⟩ | ⟨a, b, q, -⟩
      · rcases hC with ⟨f, -⟩ | ⟨f, q, -⟩
        · rw [a, b, f]; exact ⟨he, hg, hc⟩
        · have := (hnx.resolve_left q).2
          rw [a, b, f]; exact ⟨he, hg, this.2.2⟩
      · have h4 := (hnx.resolve_left q).2
        rcases hC with ⟨f, -⟩ | ⟨f, -, -⟩
        · rw [a, b, f]; exact ⟨h4.1, h4.2.1, hc⟩
        · rw [a, b, f]; exact h4
    · obtain ⟨a, b, f, d⟩ := h2 y hy
      rw [a, b, f, d]; exact hn y y0 y1
  · obtain ⟨a, b, f, d⟩ := h2 y hy
    unfold vE vC
    rw [a, b, f, d]
    exact ⟨rfl, rfl⟩
  · unfold vE
    rw [h3, if_neg (by decide)]
    rcases hE with ⟨a, b, q⟩ | ⟨a, b, q, q2⟩
    · rw [a, b]
      by_cases h0 : M 73 x = 0
      · rw [if_pos h0, show UT = 2147483647 from rfl]; omega
      · rw [if_neg h0]
        have h4 := (hnx.resolve_left h0).2
        have q := q.resolve_left h0
        have h41 := h4.1
        have h42 := h4.2.1
        clear hnx h4 hC
        omega
    · rw [a, b, if_neg q]
      have h4 := (hnx.resolve_left q).2
      have h41 := h4.1
      have h42 := h4.2.1
      clear hnx h4 hC
      omega
  · unfold vC
    rw [h3, if_neg (by decide)]
    rcases hC with ⟨f, q⟩ | ⟨f, q, q2⟩
    · rw [f]
      by_cases h0 : M 73 x = 0
      · rw [if_pos h0, show UT = 2147483647 from rfl]; omega
      · rw [if_neg h0]
        have q := q.resolve_left h0
        omega
    · rw [f, if_neg q]; omega
def noP (M : fM) (lv : Int) (K : fM) : Prop := UpdM M (fun m => m = (M 70 (lv + 1), M 71 lv, M 72 lv, M 59 37, evM M lv.toNat)) K ∧ (∀ c, c ≠ 59 → (c < 73 ∨ 76 < c) → K c = M c) ∧ (∀ k, k ≠ 44 → K 59 k = M 59 k) ∧ (K 59 44 = 0 ∨ K 59 44 = 1) ∧ nwf K
theorem noI.fin {M N : fM} {lv b : Int} (h0 : 0 ≤ lv) (h : noI M (M 70 (lv + 1)) (M 71 lv) (M 72 lv) (M 59 37) N) (hb : (b = 0 ∨ b = 1) ∧ (b = 1 ↔ M 59 44 = 1 ∨ ∃ j, 0 ≤ j ∧ j < lv + 1 ∧ M 59 43 = M 70 (lv + 1) - M 70 j)) (h44 : M 59 44 = 0 ∨ M 59 44 = 1) : noP M lv (up N 59 44 b) := by
  obtain ⟨h1, h2, h3, h4, h5⟩ := h
  have e : ∀ c, c ≠ 59 → up N 59 44 b c = N c := fun c hc => up_ne hc
  refine ⟨⟨fun y y0 y1 => ?_, ?_⟩, fun c hc hd => by rw [e c hc]; exact h1 c hd, fun k hk => by rw [up_app, if_neg (fun z => hk z.2), h1 59 (by decide)], by rw [up_app, if_pos ⟨rfl, rfl⟩]; exact hb.1, h2.eq (fun c a _ => e c (by omega))⟩
  · have a1 : vE (up N 59 44 b) y = vE N y := by unfold vE; rw [e 73 (by decide), e 74 (by decide), e 76 (by decide)]
    have a2 : vC (up N 59 44 b) y = vC N y := by unfold vC; rw [e 73 (by decide), e 75 (by decide)]
    rw [a1, a2]
    refine ⟨Lst.one (fun hy => ?_) (fun hy => ?_), Lst.one (fun hy => ?_) (fun hy => ?_)⟩
    · have hy : y = M 70 (lv + 1) := hy
      rw [hy, h4]
    · exact (h3 y hy).1
    · have hy : y = M 70 (lv + 1) := hy
      rw [hy, h5]
    · exact (h3 y hy).2
  · rw [up_app, if_pos ⟨rfl, rfl⟩]
    refine ⟨?_, hb.2.trans (or_congr Iff.rfl ?_)⟩
    · rcases hb.1 with q | q
      · right
        rcases h44 with z | z
        · rw [q, z]
        · have := hb.2.mpr (Or.inl z); omega
      · exact Or.inl q
    · constructor
      · rintro ⟨j, j0, j1, q⟩
        exact ⟨_, rfl, M 70 j, (evM_mem _).mpr ⟨j, j0, by omega, rfl⟩, q⟩
      · rintro ⟨m, rfl, u, hu, q⟩
        obtain ⟨j, j0, j1, z⟩ := (evM_mem _).mp hu
        exact ⟨j, j0, by omega, by rw [← z]; exact q⟩
theorem bt_step {M : fM} {x l b b' : Int} (hb : (b = 0 ∨ b = 1) ∧ (b = 1 ↔ M 59 44 = 1 ∨ ∃ j, 0 ≤ j ∧ j < l ∧ M 59 43 = x - M 70 j)) (h0 : 0 ≤ l) (h : (b' = 1 ∧ (b ≠ 0 ∨ x - M 70 l = M 59 43)) ∨ (b' = 0 ∧ b = 0 ∧ x - M 70 l ≠ M 59 43)) : (b' = 0 ∨ b' = 1) ∧ (b' = 1 ↔ M 59 44 = 1 ∨ ∃ j, 0 ≤ j ∧ j < l + 1 ∧ M 59 43 = x - M 70 j) := by
  have key : (∃ j, 0 ≤ j ∧ j < l + 1 ∧ M 59 43 = x - M 70 j) ↔ (∃ j, 0 ≤ j ∧ j < l ∧ M 59 43 = x - M 70 j) ∨ M 59 43 = x - M 70 l := by
    constructor
    · rintro ⟨j, a, c, e⟩
      by_cases hj : j = l
      · subst hj; exact Or.inr e
      · exact Or.inl ⟨j, a, by omega, e⟩
    · rintro (⟨j, a, c, e⟩ | e)
      · exact ⟨j, a, by omega, e⟩
      · exact ⟨l, h0, by omega, e⟩
  rw [key, ← or_assoc, ← hb.2]
  have hb1 := hb.1
  clear key hb
  rcases h with ⟨h1, h2⟩ | ⟨h1, h2, h3⟩
  · refine ⟨Or.inr h1, ⟨fun _ => ?_, fun _ => h1⟩⟩
    rcases h2 with h2 | h2
    · exact Or.inl (by omega)
    · exact Or.inr h2.symm
  · refine ⟨Or.inl h1, ⟨fun q => by omega, fun q => ?_⟩⟩
    rcases q with q | q
    · omega
    · exact absurd q.symm h3
set_option maxRecDepth 20000 in
set_option maxHeartbeats 4000000 in
theorem t_X7_notes {X : fX} {M : fM} {d : Nat} {lv : Int} (hl : 0 ≤ lv ∧ lv ≤ 3) (hx : 0 ≤ M 70 (lv + 1) ∧ M 70 (lv + 1) ≤ 400) (he : 0 ≤ M 71 lv ∧ M 71 lv ≤ 40) (hc : 0 ≤ M 72 lv ∧ M 72 lv ≤ 3960) (hg : 0 ≤ M 59 37 ∧ M 59 37 ≤ 2222) (h44 : M 59 44 = 0 ∨ M 59 44 = 1) (ht : ∀ j, 0 ≤ j → j ≤ lv → 0 ≤ M 70 j ∧ M 70 j ≤ 400) (hn : nwf M) : fC X d mX7_notes [.ref (xa X 59), .int (iv lv)] M (QV fun K => noP M lv K) := by
  refine fC.of (L := [_, _, _, _, _, _]) (by decide +kernel) rfl (Nat.le_of_ble_eq_true rfl) (fun Z hZ hR => ?_)
  have loop : ∀ (N : fM), noI M (M 70 (lv + 1)) (M 71 lv) (M 72 lv) (M 59 37) N → ∀ (m : Nat) (l b : Int), l + m = lv + 1 → 0 ≤ l → ((b = 0 ∨ b = 1) ∧ (b = 1 ↔ M 59 44 = 1 ∨ ∃ j, 0 ≤ j ∧ j < l ∧ M 59 43 = M 70 (lv + 1) - M 70 j)) → fG X mX7_notes Z 121 [.ref (xa X 59), .int (iv lv), .int (iv (M 70 (lv + 1))), .int (iv (M 71 lv)), .int (iv (M 72 lv)), .int (iv l)] [] (up N 59 44 b) := by
    intro N hN m
    induction m with
    | zero =>
      intro l b hlm hl0 hb
      have hfin := hN.fin hl.1 (by rw [show l = lv + 1 by omega] at hb; exact hb) h44
      clear hb
      refine f_iload hZ dX7_notes_121 rfl ?_
      refine f_iload_n hZ dX7_notes_123 rfl ?_
      refine f_igt (tgt := 165) hZ dX7_notes_124 rfl (by omega) (by omega) (fun h124 => ?_) (fun h124 => ?_)
      · exact f_retV hZ hR dX7_notes_165 rfl (by exact hfin)
      · exfalso; omega
    | succ m ih =>
      intro l b hlm hl0 hb
      have hb1 := hb.1
      have hB := @bt_step M (M 70 (lv + 1)) l b
      have n70 : N 70 l = M 70 l := by rw [hN.1 70 (by decide)]
      have n43 : N 59 43 = M 59 43 := by rw [hN.1 59 (by decide)]
      have ht1 := ht l hl0 (by omega)
      generalize hbp : ((b = 0 ∨ b = 1) ∧ (b = 1 ↔ M 59 44 = 1 ∨ ∃ j, 0 ≤ j ∧ j < l ∧ M 59 43 = M 70 (lv + 1) - M 70 j)) = bP at hb
      refine f_iload hZ dX7_notes_121 rfl ?_
      refine f_iload_n hZ dX7_notes_123 rfl ?_
      refine f_igt (tgt := 165) hZ dX7_notes_124 rfl (by first | omega | (simp only [up_app, Nat.reduceEqDiff, Int.reduceEq, and_true, true_and, and_self, and_false, false_and, if_true, if_false, reduceIte]; omega)) (by first | omega | (simp only [up_app, Nat.reduceEqDiff, Int.reduceEq, and_true, true_and, and_self, and_false, false_and, if_true, if_false, reduceIte]; omega)) (fun h124 => ?_) (fun h124 => ?_)
      · exfalso; omega
      · refine f_aload_n hZ dX7_notes_127 rfl ?_
        refine f_aload_n hZ dX7_notes_128 rfl ?_
        refine gX7_298 hZ dX7_notes_129 (fun r129 => ?_)
        try simp only [up_app, Nat.reduceEqDiff, Int.reduceEq, and_true, true_and, and_self, and_false, false_and, if_true, if_false, reduceIte] at r129 ⊢
        refine f_ne (tgt := 151) hZ dX7_notes_132 rfl (by first | omega | (simp only [up_app, Nat.reduceEqDiff, Int.reduceEq, and_true, true_and, and_self, and_false, false_and, if_true, if_false, reduceIte]; omega)) (fun h132 => ?_) (fun h132 => ?_)
        · refine f_iconst hZ dX7_notes_151 ?_
          refine f_goto (tgt := 156) hZ dX7_notes_152 rfl ?_
          refine pX7_298 hZ dX7_notes_156 (by first | omega | (simp only [up_app, Nat.reduceEqDiff, Int.reduceEq, and_true, true_and, and_self, and_false, false_and, if_true, if_false, reduceIte]; omega)) ?_
          refine f_iinc (L' := [_, _, _, _, _, _]) hZ dX7_notes_159 rfl rfl ?_
          refine f_goto (tgt := 121) hZ dX7_notes_162 rfl ?_
          have ef : ∀ q : Int, up (up N 59 44 b) 59 44 q = up N 59 44 q := fun q => up_up
          rw [ef]
          rw [← hbp] at hb
          first
            | exact ih (l + 1) _ (by omega) (by omega) (bt_step hb hl0 (Or.inl ⟨rfl, Or.inl (by omega)⟩))
            | exact ih (l + 1) _ (by omega) (by omega) (bt_step hb hl0 (Or.inl ⟨rfl, Or.inr (by omega)⟩))
            | exact ih (l + 1) _ (by omega) (by omega) (bt_step hb hl0 (Or.inr ⟨rfl, by omega, by omega⟩))
        · refine f_iload_n hZ dX7_notes_135 rfl ?_
          refine f_aload_n hZ dX7_notes_136 rfl ?_
          refine gX7_44 hZ dX7_notes_137 ?_
          refine f_iload hZ dX7_notes_140 rfl ?_
          refine f_iaload hZ dX7_notes_142 (by first | rfl | exact hC.t1 | exact hC.t2 | exact hC.t3 | exact hC.t4 | exact hC.t5) (by first | rfl | exact hC.l1 | exact hC.l2 | exact hC.l3 | exact hC.l4 | exact hC.l5) (by first | omega | (simp only [up_app, Nat.reduceEqDiff, Int.reduceEq, and_true, true_and, and_self, and_false, false_and, if_true, if_false, reduceIte]; omega)) (by first | omega | (simp only [up_app, Nat.reduceEqDiff, Int.reduceEq, and_true, true_and, and_self, and_false, false_and, if_true, if_false, reduceIte]; omega)) (fun r142 => ?_)
          try simp only [up_app, Nat.reduceEqDiff, Int.reduceEq, and_true, true_and, and_self, and_false, false_and, if_true, if_false, reduceIte] at r142 ⊢
          refine f_isub hZ dX7_notes_143 ?_
          refine f_aload_n hZ dX7_notes_144 rfl ?_
          refine gX7_295 hZ dX7_notes_145 (fun r145 => ?_)
          try simp only [up_app, Nat.reduceEqDiff, Int.reduceEq, and_true, true_and, and_self, and_false, false_and, if_true, if_false, reduceIte] at r145 ⊢
          refine f_ine (tgt := 155) hZ dX7_notes_148 rfl (by first | omega | (simp only [up_app, Nat.reduceEqDiff, Int.reduceEq, and_true, true_and, and_self, and_false, false_and, if_true, if_false, reduceIte]; omega)) (by first | omega | (simp only [up_app, Nat.reduceEqDiff, Int.reduceEq, and_true, true_and, and_self, and_false, false_and, if_true, if_false, reduceIte]; omega)) (fun h148 => ?_) (fun h148 => ?_)
          · refine f_iconst hZ dX7_notes_155 ?_
            refine pX7_298 hZ dX7_notes_156 (by first | omega | (simp only [up_app, Nat.reduceEqDiff, Int.reduceEq, and_true, true_and, and_self, and_false, false_and, if_true, if_false, reduceIte]; omega)) ?_
            refine f_iinc (L' := [_, _, _, _, _, _]) hZ dX7_notes_159 rfl rfl ?_
            refine f_goto (tgt := 121) hZ dX7_notes_162 rfl ?_
            have ef : ∀ q : Int, up (up N 59 44 b) 59 44 q = up N 59 44 q := fun q => up_up
            rw [ef]
            rw [← hbp] at hb
            first
              | exact ih (l + 1) _ (by omega) (by omega) (bt_step hb hl0 (Or.inl ⟨rfl, Or.inl (by omega)⟩))
              | exact ih (l + 1) _ (by omega) (by omega) (bt_step hb hl0 (Or.inl ⟨rfl, Or.inr (by omega)⟩))
              | exact ih (l + 1) _ (by omega) (by omega) (bt_step hb hl0 (Or.inr ⟨rfl, by omega, by omega⟩))
          · refine f_iconst hZ dX7_notes_151 ?_
            refine f_goto (tgt := 156) hZ dX7_notes_152 rfl ?_
            refine pX7_298 hZ dX7_notes_156 (by first | omega | (simp only [up_app, Nat.reduceEqDiff, Int.reduceEq, and_true, true_and, and_self, and_false, false_and, if_true, if_false, reduceIte]; omega)) ?_
            refine f_iinc (L' := [_, _, _, _, _, _]) hZ dX7_notes_159 rfl rfl ?_
            refine f_goto (tgt := 121) hZ dX7_notes_162 rfl ?_
            have ef : ∀ q : Int, up (up N 59 44 b) 59 44 q = up N 59 44 q := fun q => up_up
            rw [ef]
            rw [← hbp] at hb
            first
              | exact ih (l + 1) _ (by omega) (by omega) (bt_step hb hl0 (Or.inl ⟨rfl, Or.inl (by omega)⟩))
              | exact ih (l + 1) _ (by omega) (by omega) (bt_step hb hl0 (Or.inl ⟨rfl, Or.inr (by omega)⟩))
              | exact ih (l + 1) _ (by omega) (by omega) (bt_step hb hl0 (Or.inr ⟨rfl, by omega, by omega⟩))
  have hrl : ∀ (N : fM), noI M (M 70 (lv + 1)) (M 71 lv) (M 72 lv) (M 59 37) N → fG X mX7_notes Z 121 [.ref (xa X 59), .int (iv lv), .int (iv (M 70 (lv + 1))), .int (iv (M 71 lv)), .int (iv (M 72 lv)), .int (iv 0)] [] N := fun N hN => by
    have h := loop N hN (lv + 1).toNat 0 (N 59 44) (by omega) (Int.le_refl 0) (by rw [hN.1 59 (by decide)]; exact ⟨h44, ⟨Or.inl, fun q => q.elim (fun z => z) (fun ⟨j, a, b, _⟩ => by omega)⟩⟩)
    rw [up_id rfl] at h
    exact h
  refine f_aload_n hZ dX7_notes_0 rfl ?_
  refine gX7_44 hZ dX7_notes_1 ?_
  refine f_iload_n hZ dX7_notes_4 rfl ?_
  refine f_iconst hZ dX7_notes_5 ?_
  refine f_iadd hZ dX7_notes_6 ?_
  refine f_iaload hZ dX7_notes_7 (by first | rfl | exact hC.t1 | exact hC.t2 | exact hC.t3 | exact hC.t4 | exact hC.t5) (by first | rfl | exact hC.l1 | exact hC.l2 | exact hC.l3 | exact hC.l4 | exact hC.l5) (by first | omega | (simp only [up_app, Nat.reduceEqDiff, Int.reduceEq, and_true, true_and, and_self, and_false, false_and, if_true, if_false, reduceIte]; omega)) (by first | omega | (simp only [up_app, Nat.reduceEqDiff, Int.reduceEq, and_true, true_and, and_self, and_false, false_and, if_true, if_false, reduceIte]; omega)) (fun r7 => ?_)
  refine f_istore_n (L' := [_, _, _, _, _, _]) hZ dX7_notes_8 rfl rfl ?_
  refine f_aload_n hZ dX7_notes_9 rfl ?_
  refine gX7_47 hZ dX7_notes_10 ?_
  refine f_iload_n hZ dX7_notes_13 rfl ?_
  refine f_iaload hZ dX7_notes_14 (by first | rfl | exact hC.t1 | exact hC.t2 | exact hC.t3 | exact hC.t4 | exact hC.t5) (by first | rfl | exact hC.l1 | exact hC.l2 | exact hC.l3 | exact hC.l4 | exact hC.l5) (by first | omega | (simp only [up_app, Nat.reduceEqDiff, Int.reduceEq, and_true, true_and, and_self, and_false, false_and, if_true, if_false, reduceIte]; omega)) (by first | omega | (simp only [up_app, Nat.reduceEqDiff, Int.reduceEq, and_true, true_and, and_self, and_false, false_and, if_true, if_false, reduceIte]; omega)) (fun r14 => ?_)
  refine f_istore_n (L' := [_, _, _, _, _, _]) hZ dX7_notes_15 rfl rfl ?_
  refine f_aload_n hZ dX7_notes_16 rfl ?_
  refine gX7_50 hZ dX7_notes_17 ?_
  refine f_iload_n hZ dX7_notes_20 rfl ?_
  refine f_iaload hZ dX7_notes_21 (by first | rfl | exact hC.t1 | exact hC.t2 | exact hC.t3 | exact hC.t4 | exact hC.t5) (by first | rfl | exact hC.l1 | exact hC.l2 | exact hC.l3 | exact hC.l4 | exact hC.l5) (by first | omega | (simp only [up_app, Nat.reduceEqDiff, Int.reduceEq, and_true, true_and, and_self, and_false, false_and, if_true, if_false, reduceIte]; omega)) (by first | omega | (simp only [up_app, Nat.reduceEqDiff, Int.reduceEq, and_true, true_and, and_self, and_false, false_and, if_true, if_false, reduceIte]; omega)) (fun r21 => ?_)
  refine f_istore (L' := [_, _, _, _, _, _]) hZ dX7_notes_22 rfl rfl ?_
  refine f_aload_n hZ dX7_notes_24 rfl ?_
  refine gX7_53 hZ dX7_notes_25 ?_
  refine f_iload_n hZ dX7_notes_28 rfl ?_
  refine f_iaload hZ dX7_notes_29 (by first | rfl | exact hC.t1 | exact hC.t2 | exact hC.t3 | exact hC.t4 | exact hC.t5) (by first | rfl | exact hC.l1 | exact hC.l2 | exact hC.l3 | exact hC.l4 | exact hC.l5) (by first | omega | (simp only [up_app, Nat.reduceEqDiff, Int.reduceEq, and_true, true_and, and_self, and_false, false_and, if_true, if_false, reduceIte]; omega)) (by first | omega | (simp only [up_app, Nat.reduceEqDiff, Int.reduceEq, and_true, true_and, and_self, and_false, false_and, if_true, if_false, reduceIte]; omega)) (fun r29 => ?_)
  refine f_eq (tgt := 66) hZ dX7_notes_30 rfl (by first | omega | (simp only [up_app, Nat.reduceEqDiff, Int.reduceEq, and_true, true_and, and_self, and_false, false_and, if_true, if_false, reduceIte]; omega)) (fun h30 => ?_) (fun h30 => ?_)
  · refine f_aload_n hZ dX7_notes_66 rfl ?_
    refine gX7_56 hZ dX7_notes_67 ?_
    refine f_iload_n hZ dX7_notes_70 rfl ?_
    refine f_iload_n hZ dX7_notes_71 rfl ?_
    refine f_iastore hZ dX7_notes_72 (by first | rfl | exact hC.t1 | exact hC.t2 | exact hC.t3 | exact hC.t4 | exact hC.t5) (by first | rfl | exact hC.l1 | exact hC.l2 | exact hC.l3 | exact hC.l4 | exact hC.l5) (by first | omega | (simp only [up_app, Nat.reduceEqDiff, Int.reduceEq, and_true, true_and, and_self, and_false, false_and, if_true, if_false, reduceIte]; omega)) (by first | omega | (simp only [up_app, Nat.reduceEqDiff, Int.reduceEq, and_true, true_and, and_self, and_false, false_and, if_true, if_false, reduceIte]; omega)) (by first | omega | (simp only [up_app, Nat.reduceEqDiff, Int.reduceEq, and_true, true_and, and_self, and_false, false_and, if_true, if_false, reduceIte]; omega)) ?_
    refine f_aload_n hZ dX7_notes_73 rfl ?_
    refine gX7_62 hZ dX7_notes_74 ?_
    refine f_iload_n hZ dX7_notes_77 rfl ?_
    refine f_aload_n hZ dX7_notes_78 rfl ?_
    refine gX7_301 hZ dX7_notes_79 (fun r79 => ?_)
    try simp only [up_app, Nat.reduceEqDiff, Int.reduceEq, and_true, true_and, and_self, and_false, false_and, if_true, if_false, reduceIte] at r79 ⊢
    refine f_iastore hZ dX7_notes_82 (by first | rfl | exact hC.t1 | exact hC.t2 | exact hC.t3 | exact hC.t4 | exact hC.t5) (by first | rfl | exact hC.l1 | exact hC.l2 | exact hC.l3 | exact hC.l4 | exact hC.l5) (by first | omega | (simp only [up_app, Nat.reduceEqDiff, Int.reduceEq, and_true, true_and, and_self, and_false, false_and, if_true, if_false, reduceIte]; omega)) (by first | omega | (simp only [up_app, Nat.reduceEqDiff, Int.reduceEq, and_true, true_and, and_self, and_false, false_and, if_true, if_false, reduceIte]; omega)) (by first | omega | (simp only [up_app, Nat.reduceEqDiff, Int.reduceEq, and_true, true_and, and_self, and_false, false_and, if_true, if_false, reduceIte]; omega)) ?_
    refine f_aload_n hZ dX7_notes_83 rfl ?_
    refine gX7_53 hZ dX7_notes_84 ?_
    refine f_iload_n hZ dX7_notes_87 rfl ?_
    refine f_iaload hZ dX7_notes_88 (by first | rfl | exact hC.t1 | exact hC.t2 | exact hC.t3 | exact hC.t4 | exact hC.t5) (by first | rfl | exact hC.l1 | exact hC.l2 | exact hC.l3 | exact hC.l4 | exact hC.l5) (by first | omega | (simp only [up_app, Nat.reduceEqDiff, Int.reduceEq, and_true, true_and, and_self, and_false, false_and, if_true, if_false, reduceIte]; omega)) (by first | omega | (simp only [up_app, Nat.reduceEqDiff, Int.reduceEq, and_true, true_and, and_self, and_false, false_and, if_true, if_false, reduceIte]; omega)) (fun r88 => ?_)
    try simp only [up_app, Nat.reduceEqDiff, Int.reduceEq, and_true, true_and, and_self, and_false, false_and, if_true, if_false, reduceIte] at r88 ⊢
    refine f_eq (tgt := 103) hZ dX7_notes_89 rfl (by first | omega | (simp only [up_app, Nat.reduceEqDiff, Int.reduceEq, and_true, true_and, and_self, and_false, false_and, if_true, if_false, reduceIte]; omega)) (fun h89 => ?_) (fun h89 => ?_)
    · refine f_aload_n hZ dX7_notes_103 rfl ?_
      refine gX7_59 hZ dX7_notes_104 ?_
      refine f_iload_n hZ dX7_notes_107 rfl ?_
      refine f_iload hZ dX7_notes_108 rfl ?_
      refine f_iastore hZ dX7_notes_110 (by first | rfl | exact hC.t1 | exact hC.t2 | exact hC.t3 | exact hC.t4 | exact hC.t5) (by first | rfl | exact hC.l1 | exact hC.l2 | exact hC.l3 | exact hC.l4 | exact hC.l5) (by first | omega | (simp only [up_app, Nat.reduceEqDiff, Int.reduceEq, and_true, true_and, and_self, and_false, false_and, if_true, if_false, reduceIte]; omega)) (by first | omega | (simp only [up_app, Nat.reduceEqDiff, Int.reduceEq, and_true, true_and, and_self, and_false, false_and, if_true, if_false, reduceIte]; omega)) (by first | omega | (simp only [up_app, Nat.reduceEqDiff, Int.reduceEq, and_true, true_and, and_self, and_false, false_and, if_true, if_false, reduceIte]; omega)) ?_
      refine f_aload_n hZ dX7_notes_111 rfl ?_
      refine gX7_53 hZ dX7_notes_112 ?_
      refine f_iload_n hZ dX7_notes_115 rfl ?_
      refine f_iconst hZ dX7_notes_116 ?_
      refine f_iastore hZ dX7_notes_117 (by first | rfl | exact hC.t1 | exact hC.t2 | exact hC.t3 | exact hC.t4 | exact hC.t5) (by first | rfl | exact hC.l1 | exact hC.l2 | exact hC.l3 | exact hC.l4 | exact hC.l5) (by first | omega | (simp only [up_app, Nat.reduceEqDiff, Int.reduceEq, and_true, true_and, and_self, and_false, false_and, if_true, if_false, reduceIte]; omega)) (by first | omega | (simp only [up_app, Nat.reduceEqDiff, Int.reduceEq, and_true, true_and, and_self, and_false, false_and, if_true, if_false, reduceIte]; omega)) (by first | omega | (simp only [up_app, Nat.reduceEqDiff, Int.reduceEq, and_true, true_and, and_self, and_false, false_and, if_true, if_false, reduceIte]; omega)) ?_
      refine f_iconst hZ dX7_notes_118 ?_
      refine f_istore (L' := [_, _, _, _, _, _]) hZ dX7_notes_119 rfl rfl ?_
      first
        | (exfalso; omega)
        | (refine hrl _ ?_; exact no_mk hn hx he hc hg (fun k hk => by (repeat rw [up_ne (by omega)])) (fun y hy => by simp [up_app, hy]) (by simp [up_app]) (Or.inl ⟨by simp [up_app], by simp [up_app], Or.inl (by omega)⟩) (Or.inl ⟨by simp [up_app], Or.inl (by omega)⟩))
        | (refine hrl _ ?_; exact no_mk hn hx he hc hg (fun k hk => by (repeat rw [up_ne (by omega)])) (fun y hy => by simp [up_app, hy]) (by simp [up_app]) (Or.inl ⟨by simp [up_app], by simp [up_app], Or.inl (by omega)⟩) (Or.inl ⟨by simp [up_app], Or.inr (by omega)⟩))
        | (refine hrl _ ?_; exact no_mk hn hx he hc hg (fun k hk => by (repeat rw [up_ne (by omega)])) (fun y hy => by simp [up_app, hy]) (by simp [up_app]) (Or.inl ⟨by simp [up_app], by simp [up_app], Or.inl (by omega)⟩) (Or.inr ⟨by simp [up_app], by omega, by omega⟩))
        | (refine hrl _ ?_; exact no_mk hn hx he hc hg (fun k hk => by (repeat rw [up_ne (by omega)])) (fun y hy => by simp [up_app, hy]) (by simp [up_app]) (Or.inl ⟨by simp [up_app], by simp [up_app], Or.inr (Or.inl (by omega))⟩) (Or.inl ⟨by simp [up_app], Or.inl (by omega)⟩))
        | (refine hrl _ ?_; exact no_mk hn hx he hc hg (fun k hk => by (repeat rw [up_ne (by omega)])) (fun y hy => by simp [up_app, hy]) (by simp [up_app]) (Or.inl ⟨by simp [up_app], by simp [up_app], Or.inr (Or.inl (by omega))⟩) (Or.inl ⟨by simp [up_app], Or.inr (by omega)⟩))
        | (refine hrl _ ?_; exact no_mk hn hx he hc hg (fun k hk => by (repeat rw [up_ne (by omega)])) (fun y hy => by simp [up_app, hy]) (by simp [up_app]) (Or.inl ⟨by simp [up_app], by simp [up_app], Or.inr (Or.inl (by omega))⟩) (Or.inr ⟨by simp [up_app], by omega, by omega⟩))
        | (refine hrl _ ?_; exact no_mk hn hx he hc hg (fun k hk => by (repeat rw [up_ne (by omega)])) (fun y hy => by simp [up_app, hy]) (by simp [up_app]) (Or.inl ⟨by simp [up_app], by simp [up_app], Or.inr (Or.inr ⟨by omega, by omega⟩)⟩) (Or.inl ⟨by simp [up_app], Or.inl (by omega)⟩))
        | (refine hrl _ ?_; exact no_mk hn hx he hc hg (fun k hk => by (repeat rw [up_ne (by omega)])) (fun y hy => by simp [up_app, hy]) (by simp [up_app]) (Or.inl ⟨by simp [up_app], by simp [up_app], Or.inr (Or.inr ⟨by omega, by omega⟩)⟩) (Or.inl ⟨by simp [up_app], Or.inr (by omega)⟩))
        | (refine hrl _ ?_; exact no_mk hn hx he hc hg (fun k hk => by (repeat rw [up_ne (by omega)])) (fun y hy => by simp [up_app, hy]) (by simp [up_app]) (Or.inl ⟨by simp [up_app], by simp [up_app], Or.inr (Or.inr ⟨by omega, by omega⟩)⟩) (Or.inr ⟨by simp [up_app], by omega, by omega⟩))
        | (refine hrl _ ?_; exact no_mk hn hx he hc hg (fun k hk => by (repeat rw [up_ne (by omega)])) (fun y hy => by simp [up_app, hy]) (by simp [up_app]) (Or.inr ⟨by simp [up_app], by simp [up_app], by omega, Or.inl (by omega)⟩) (Or.inl ⟨by simp [up_app], Or.inl (by omega)⟩))
        | (refine hrl _ ?_; exact no_mk hn hx he hc hg (fun k hk => by (repeat rw [up_ne (by omega)])) (fun y hy => by simp [up_app, hy]) (by simp [up_app]) (Or.inr ⟨by simp [up_app], by simp [up_app], by omega, Or.inl (by omega)⟩) (Or.inl ⟨by simp [up_app], Or.inr (by omega)⟩))
        | (refine hrl _ ?_; exact no_mk hn hx he hc hg (fun k hk => by (repeat rw [up_ne (by omega)])) (fun y hy => by simp [up_app, hy]) (by simp [up_app]) (Or.inr ⟨by simp [up_app], by simp [up_app], by omega, Or.inl (by omega)⟩) (Or.inr ⟨by simp [up_app], by omega, by omega⟩))
        | (refine hrl _ ?_; exact no_mk hn hx he hc hg (fun k hk => by (repeat rw [up_ne (by omega)])) (fun y hy => by simp [up_app, hy]) (by simp [up_app]) (Or.inr ⟨by simp [up_app], by simp [up_app], by omega, Or.inr ⟨by omega, by omega⟩⟩) (Or.inl ⟨by simp [up_app], Or.inl (by omega)⟩))
        | (refine hrl _ ?_; exact no_mk hn hx he hc hg (fun k hk => by (repeat rw [up_ne (by omega)])) (fun y hy => by simp [up_app, hy]) (by simp [up_app]) (Or.inr ⟨by simp [up_app], by simp [up_app], by omega, Or.inr ⟨by omega, by omega⟩⟩) (Or.inl ⟨by simp [up_app], Or.inr (by omega)⟩))
        | (refine hrl _ ?_; exact no_mk hn hx he hc hg (fun k hk => by (repeat rw [up_ne (by omega)])) (fun y hy => by simp [up_app, hy]) (by simp [up_app]) (Or.inr ⟨by simp [up_app], by simp [up_app], by omega, Or.inr ⟨by omega, by omega⟩⟩) (Or.inr ⟨by simp [up_app], by omega, by omega⟩))
    · refine f_iload hZ dX7_notes_92 rfl ?_
      refine f_aload_n hZ dX7_notes_94 rfl ?_
      refine gX7_59 hZ dX7_notes_95 ?_
      refine f_iload_n hZ dX7_notes_98 rfl ?_
      refine f_iaload hZ dX7_notes_99 (by first | rfl | exact hC.t1 | exact hC.t2 | exact hC.t3 | exact hC.t4 | exact hC.t5) (by first | rfl | exact hC.l1 | exact hC.l2 | exact hC.l3 | exact hC.l4 | exact hC.l5) (by first | omega | (simp only [up_app, Nat.reduceEqDiff, Int.reduceEq, and_true, true_and, and_self, and_false, false_and, if_true, if_false, reduceIte]; omega)) (by first | omega | (simp only [up_app, Nat.reduceEqDiff, Int.reduceEq, and_true, true_and, and_self, and_false, false_and, if_true, if_false, reduceIte]; omega)) (fun r99 => ?_)
      try simp only [up_app, Nat.reduceEqDiff, Int.reduceEq, and_true, true_and, and_self, and_false, false_and, if_true, if_false, reduceIte] at r99 ⊢
      refine f_ige (tgt := 111) hZ dX7_notes_100 rfl (by first | omega | (simp only [up_app, Nat.reduceEqDiff, Int.reduceEq, and_true, true_and, and_self, and_false, false_and, if_true, if_false, reduceIte]; omega)) (by first | omega | (simp only [up_app, Nat.reduceEqDiff, Int.reduceEq, and_true, true_and, and_self, and_false, false_and, if_true, if_false, reduceIte]; omega)) (fun h100 => ?_) (fun h100 => ?_)
      · refine f_aload_n hZ dX7_notes_111 rfl ?_
        refine gX7_53 hZ dX7_notes_112 ?_
        refine f_iload_n hZ dX7_notes_115 rfl ?_
        refine f_iconst hZ dX7_notes_116 ?_
        refine f_iastore hZ dX7_notes_117 (by first | rfl | exact hC.t1 | exact hC.t2 | exact hC.t3 | exact hC.t4 | exact hC.t5) (by first | rfl | exact hC.l1 | exact hC.l2 | exact hC.l3 | exact hC.l4 | exact hC.l5) (by first | omega | (simp only [up_app, Nat.reduceEqDiff, Int.reduceEq, and_true, true_and, and_self, and_false, false_and, if_true, if_false, reduceIte]; omega)) (by first | omega | (simp only [up_app, Nat.reduceEqDiff, Int.reduceEq, and_true, true_and, and_self, and_false, false_and, if_true, if_false, reduceIte]; omega)) (by first | omega | (simp only [up_app, Nat.reduceEqDiff, Int.reduceEq, and_true, true_and, and_self, and_false, false_and, if_true, if_false, reduceIte]; omega)) ?_
        refine f_iconst hZ dX7_notes_118 ?_
        refine f_istore (L' := [_, _, _, _, _, _]) hZ dX7_notes_119 rfl rfl ?_
        first
          | (exfalso; omega)
          | (refine hrl _ ?_; exact no_mk hn hx he hc hg (fun k hk => by (repeat rw [up_ne (by omega)])) (fun y hy => by simp [up_app, hy]) (by simp [up_app]) (Or.inl ⟨by simp [up_app], by simp [up_app], Or.inl (by omega)⟩) (Or.inl ⟨by simp [up_app], Or.inl (by omega)⟩))
          | (refine hrl _ ?_; exact no_mk hn hx he hc hg (fun k hk => by (repeat rw [up_ne (by omega)])) (fun y hy => by simp [up_app, hy]) (by simp [up_app]) (Or.inl ⟨by simp [up_app], by simp [up_app], Or.inl (by omega)⟩) (Or.inl ⟨by simp [up_app], Or.inr (by omega)⟩))
          | (refine hrl _ ?_; exact no_mk hn hx he hc hg (fun k hk => by (repeat rw [up_ne (by omega)])) (fun y hy => by simp [up_app, hy]) (by simp [up_app]) (Or.inl ⟨by simp [up_app], by simp [up_app], Or.inl (by omega)⟩) (Or.inr ⟨by simp [up_app], by omega, by omega⟩))
          | (refine hrl _ ?_; exact no_mk hn hx he hc hg (fun k hk => by (repeat rw [up_ne (by omega)])) (fun y hy => by simp [up_app, hy]) (by simp [up_app]) (Or.inl ⟨by simp [up_app], by simp [up_app], Or.inr (Or.inl (by omega))⟩) (Or.inl ⟨by simp [up_app], Or.inl (by omega)⟩))
          | (refine hrl _ ?_; exact no_mk hn hx he hc hg (fun k hk => by (repeat rw [up_ne (by omega)])) (fun y hy => by simp [up_app, hy]) (by simp [up_app]) (Or.inl ⟨by simp [up_app], by simp [up_app], Or.inr (Or.inl (by omega))⟩) (Or.inl ⟨by simp [up_app], Or.inr (by omega)⟩))
          | (refine hrl _ ?_; exact no_mk hn hx he hc hg (fun k hk => by (repeat rw [up_ne (by omega)])) (fun y hy => by simp [up_app, hy]) (by simp [up_app]) (Or.inl ⟨by simp [up_app], by simp [up_app], Or.inr (Or.inl (by omega))⟩) (Or.inr ⟨by simp [up_app], by omega, by omega⟩))
          | (refine hrl _ ?_; exact no_mk hn hx he hc hg (fun k hk => by (repeat rw [up_ne (by omega)])) (fun y hy => by simp [up_app, hy]) (by simp [up_app]) (Or.inl ⟨by simp [up_app], by simp [up_app], Or.inr (Or.inr ⟨by omega, by omega⟩)⟩) (Or.inl ⟨by simp [up_app], Or.inl (by omega)⟩))
          | (refine hrl _ ?_; exact no_mk hn hx he hc hg (fun k hk => by (repeat rw [up_ne (by omega)])) (fun y hy => by simp [up_app, hy]) (by simp [up_app]) (Or.inl ⟨by simp [up_app], by simp [up_app], Or.inr (Or.inr ⟨by omega, by omega⟩)⟩) (Or.inl ⟨by simp [up_app], Or.inr (by omega)⟩))
          | (refine hrl _ ?_; exact no_mk hn hx he hc hg (fun k hk => by (repeat rw [up_ne (by omega)])) (fun y hy => by simp [up_app, hy]) (by simp [up_app]) (Or.inl ⟨by simp [up_app], by simp [up_app], Or.inr (Or.inr ⟨by omega, by omega⟩)⟩) (Or.inr ⟨by simp [up_app], by omega, by omega⟩))
          | (refine hrl _ ?_; exact no_mk hn hx he hc hg (fun k hk => by (repeat rw [up_ne (by omega)])) (fun y hy => by simp [up_app, hy]) (by simp [up_app]) (Or.inr ⟨by simp [up_app], by simp [up_app], by omega, Or.inl (by omega)⟩) (Or.inl ⟨by simp [up_app], Or.inl (by omega)⟩))
          | (refine hrl _ ?_; exact no_mk hn hx he hc hg (fun k hk => by (repeat rw [up_ne (by omega)])) (fun y hy => by simp [up_app, hy]) (by simp [up_app]) (Or.inr ⟨by simp [up_app], by simp [up_app], by omega, Or.inl (by omega)⟩) (Or.inl ⟨by simp [up_app], Or.inr (by omega)⟩))
          | (refine hrl _ ?_; exact no_mk hn hx he hc hg (fun k hk => by (repeat rw [up_ne (by omega)])) (fun y hy => by simp [up_app, hy]) (by simp [up_app]) (Or.inr ⟨by simp [up_app], by simp [up_app], by omega, Or.inl (by omega)⟩) (Or.inr ⟨by simp [up_app], by omega, by omega⟩))
          | (refine hrl _ ?_; exact no_mk hn hx he hc hg (fun k hk => by (repeat rw [up_ne (by omega)])) (fun y hy => by simp [up_app, hy]) (by simp [up_app]) (Or.inr ⟨by simp [up_app], by simp [up_app], by omega, Or.inr ⟨by omega, by omega⟩⟩) (Or.inl ⟨by simp [up_app], Or.inl (by omega)⟩))
          | (refine hrl _ ?_; exact no_mk hn hx he hc hg (fun k hk => by (repeat rw [up_ne (by omega)])) (fun y hy => by simp [up_app, hy]) (by simp [up_app]) (Or.inr ⟨by simp [up_app], by simp [up_app], by omega, Or.inr ⟨by omega, by omega⟩⟩) (Or.inl ⟨by simp [up_app], Or.inr (by omega)⟩))
          | (refine hrl _ ?_; exact no_mk hn hx he hc hg (fun k hk => by (repeat rw [up_ne (by omega)])) (fun y hy => by simp [up_app, hy]) (by simp [up_app]) (Or.inr ⟨by simp [up_app], by simp [up_app], by omega, Or.inr ⟨by omega, by omega⟩⟩) (Or.inr ⟨by simp [up_app], by omega, by omega⟩))
      · refine f_aload_n hZ dX7_notes_103 rfl ?_
        refine gX7_59 hZ dX7_notes_104 ?_
        refine f_iload_n hZ dX7_notes_107 rfl ?_
        refine f_iload hZ dX7_notes_108 rfl ?_
        refine f_iastore hZ dX7_notes_110 (by first | rfl | exact hC.t1 | exact hC.t2 | exact hC.t3 | exact hC.t4 | exact hC.t5) (by first | rfl | exact hC.l1 | exact hC.l2 | exact hC.l3 | exact hC.l4 | exact hC.l5) (by first | omega | (simp only [up_app, Nat.reduceEqDiff, Int.reduceEq, and_true, true_and, and_self, and_false, false_and, if_true, if_false, reduceIte]; omega)) (by first | omega | (simp only [up_app, Nat.reduceEqDiff, Int.reduceEq, and_true, true_and, and_self, and_false, false_and, if_true, if_false, reduceIte]; omega)) (by first | omega | (simp only [up_app, Nat.reduceEqDiff, Int.reduceEq, and_true, true_and, and_self, and_false, false_and, if_true, if_false, reduceIte]; omega)) ?_
        refine f_aload_n hZ dX7_notes_111 rfl ?_
        refine gX7_53 hZ dX7_notes_112 ?_
        refine f_iload_n hZ dX7_notes_115 rfl ?_
        refine f_iconst hZ dX7_notes_116 ?_
        refine f_iastore hZ dX7_notes_117 (by first | rfl | exact hC.t1 | exact hC.t2 | exact hC.t3 | exact hC.t4 | exact hC.t5) (by first | rfl | exact hC.l1 | exact hC.l2 | exact hC.l3 | exact hC.l4 | exact hC.l5) (by first | omega | (simp only [up_app, Nat.reduceEqDiff, Int.reduceEq, and_true, true_and, and_self, and_false, false_and, if_true, if_false, reduceIte]; omega)) (by first | omega | (simp only [up_app, Nat.reduceEqDiff, Int.reduceEq, and_true, true_and, and_self, and_false, false_and, if_true, if_false, reduceIte]; omega)) (by first | omega | (simp only [up_app, Nat.reduceEqDiff, Int.reduceEq, and_true, true_and, and_self, and_false, false_and, if_true, if_false, reduceIte]; omega)) ?_
        refine f_iconst hZ dX7_notes_118 ?_
        refine f_istore (L' := [_, _, _, _, _, _]) hZ dX7_notes_119 rfl rfl ?_
        first
          | (exfalso; omega)
          | (refine hrl _ ?_; exact no_mk hn hx he hc hg (fun k hk => by (repeat rw [up_ne (by omega)])) (fun y hy => by simp [up_app, hy]) (by simp [up_app]) (Or.inl ⟨by simp [up_app], by simp [up_app], Or.inl (by omega)⟩) (Or.inl ⟨by simp [up_app], Or.inl (by omega)⟩))
          | (refine hrl _ ?_; exact no_mk hn hx he hc hg (fun k hk => by (repeat rw [up_ne (by omega)])) (fun y hy => by simp [up_app, hy]) (by simp [up_app]) (Or.inl ⟨by simp [up_app], by simp [up_app], Or.inl (by omega)⟩) (Or.inl ⟨by simp [up_app], Or.inr (by omega)⟩))
          | (refine hrl _ ?_; exact no_mk hn hx he hc hg (fun k hk => by (repeat rw [up_ne (by omega)])) (fun y hy => by simp [up_app, hy]) (by simp [up_app]) (Or.inl ⟨by simp [up_app], by simp [up_app], Or.inl (by omega)⟩) (Or.inr ⟨by simp [up_app], by omega, by omega⟩))
          | (refine hrl _ ?_; exact no_mk hn hx he hc hg (fun k hk => by (repeat rw [up_ne (by omega)])) (fun y hy => by simp [up_app, hy]) (by simp [up_app]) (Or.inl ⟨by simp [up_app], by simp [up_app], Or.inr (Or.inl (by omega))⟩) (Or.inl ⟨by simp [up_app], Or.inl (by omega)⟩))
          | (refine hrl _ ?_; exact no_mk hn hx he hc hg (fun k hk => by (repeat rw [up_ne (by omega)])) (fun y hy => by simp [up_app, hy]) (by simp [up_app]) (Or.inl ⟨by simp [up_app], by simp [up_app], Or.inr (Or.inl (by omega))⟩) (Or.inl ⟨by simp [up_app], Or.inr (by omega)⟩))
          | (refine hrl _ ?_; exact no_mk hn hx he hc hg (fun k hk => by (repeat rw [up_ne (by omega)])) (fun y hy => by simp [up_app, hy]) (by simp [up_app]) (Or.inl ⟨by simp [up_app], by simp [up_app], Or.inr (Or.inl (by omega))⟩) (Or.inr ⟨by simp [up_app], by omega, by omega⟩))
          | (refine hrl _ ?_; exact no_mk hn hx he hc hg (fun k hk => by (repeat rw [up_ne (by omega)])) (fun y hy => by simp [up_app, hy]) (by simp [up_app]) (Or.inl ⟨by simp [up_app], by simp [up_app], Or.inr (Or.inr ⟨by omega, by omega⟩)⟩) (Or.inl ⟨by simp [up_app], Or.inl (by omega)⟩))
          | (refine hrl _ ?_; exact no_mk hn hx he hc hg (fun k hk => by (repeat rw [up_ne (by omega)])) (fun y hy => by simp [up_app, hy]) (by simp [up_app]) (Or.inl ⟨by simp [up_app], by simp [up_app], Or.inr (Or.inr ⟨by omega, by omega⟩)⟩) (Or.inl ⟨by simp [up_app], Or.inr (by omega)⟩))
          | (refine hrl _ ?_; exact no_mk hn hx he hc hg (fun k hk => by (repeat rw [up_ne (by omega)])) (fun y hy => by simp [up_app, hy]) (by simp [up_app]) (Or.inl ⟨by simp [up_app], by simp [up_app], Or.inr (Or.inr ⟨by omega, by omega⟩)⟩) (Or.inr ⟨by simp [up_app], by omega, by omega⟩))
          | (refine hrl _ ?_; exact no_mk hn hx he hc hg (fun k hk => by (repeat rw [up_ne (by omega)])) (fun y hy => by simp [up_app, hy]) (by simp [up_app]) (Or.inr ⟨by simp [up_app], by simp [up_app], by omega, Or.inl (by omega)⟩) (Or.inl ⟨by simp [up_app], Or.inl (by omega)⟩))
          | (refine hrl _ ?_; exact no_mk hn hx he hc hg (fun k hk => by (repeat rw [up_ne (by omega)])) (fun y hy => by simp [up_app, hy]) (by simp [up_app]) (Or.inr ⟨by simp [up_app], by simp [up_app], by omega, Or.inl (by omega)⟩) (Or.inl ⟨by simp [up_app], Or.inr (by omega)⟩))
          | (refine hrl _ ?_; exact no_mk hn hx he hc hg (fun k hk => by (repeat rw [up_ne (by omega)])) (fun y hy => by simp [up_app, hy]) (by simp [up_app]) (Or.inr ⟨by simp [up_app], by simp [up_app], by omega, Or.inl (by omega)⟩) (Or.inr ⟨by simp [up_app], by omega, by omega⟩))
          | (refine hrl _ ?_; exact no_mk hn hx he hc hg (fun k hk => by (repeat rw [up_ne (by omega)])) (fun y hy => by simp [up_app, hy]) (by simp [up_app]) (Or.inr ⟨by simp [up_app], by simp [up_app], by omega, Or.inr ⟨by omega, by omega⟩⟩) (Or.inl ⟨by simp [up_app], Or.inl (by omega)⟩))
          | (refine hrl _ ?_; exact no_mk hn hx he hc hg (fun k hk => by (repeat rw [up_ne (by omega)])) (fun y hy => by simp [up_app, hy]) (by simp [up_app]) (Or.inr ⟨by simp [up_app], by simp [up_app], by omega, Or.inr ⟨by omega, by omega⟩⟩) (Or.inl ⟨by simp [up_app], Or.inr (by omega)⟩))
          | (refine hrl _ ?_; exact no_mk hn hx he hc hg (fun k hk => by (repeat rw [up_ne (by omega)])) (fun y hy => by simp [up_app, hy]) (by simp [up_app]) (Or.inr ⟨by simp [up_app], by simp [up_app], by omega, Or.inr ⟨by omega, by omega⟩⟩) (Or.inr ⟨by simp [up_app], by omega, by omega⟩))
  · refine f_iload_n hZ dX7_notes_33 rfl ?_
    refine f_aload_n hZ dX7_notes_34 rfl ?_
    refine gX7_56 hZ dX7_notes_35 ?_
    refine f_iload_n hZ dX7_notes_38 rfl ?_
    refine f_iaload hZ dX7_notes_39 (by first | rfl | exact hC.t1 | exact hC.t2 | exact hC.t3 | exact hC.t4 | exact hC.t5) (by first | rfl | exact hC.l1 | exact hC.l2 | exact hC.l3 | exact hC.l4 | exact hC.l5) (by first | omega | (simp only [up_app, Nat.reduceEqDiff, Int.reduceEq, and_true, true_and, and_self, and_false, false_and, if_true, if_false, reduceIte]; omega)) (by first | omega | (simp only [up_app, Nat.reduceEqDiff, Int.reduceEq, and_true, true_and, and_self, and_false, false_and, if_true, if_false, reduceIte]; omega)) (fun r39 => ?_)
    refine f_ilt (tgt := 66) hZ dX7_notes_40 rfl (by first | omega | (simp only [up_app, Nat.reduceEqDiff, Int.reduceEq, and_true, true_and, and_self, and_false, false_and, if_true, if_false, reduceIte]; omega)) (by first | omega | (simp only [up_app, Nat.reduceEqDiff, Int.reduceEq, and_true, true_and, and_self, and_false, false_and, if_true, if_false, reduceIte]; omega)) (fun h40 => ?_) (fun h40 => ?_)
    · refine f_aload_n hZ dX7_notes_66 rfl ?_
      refine gX7_56 hZ dX7_notes_67 ?_
      refine f_iload_n hZ dX7_notes_70 rfl ?_
      refine f_iload_n hZ dX7_notes_71 rfl ?_
      refine f_iastore hZ dX7_notes_72 (by first | rfl | exact hC.t1 | exact hC.t2 | exact hC.t3 | exact hC.t4 | exact hC.t5) (by first | rfl | exact hC.l1 | exact hC.l2 | exact hC.l3 | exact hC.l4 | exact hC.l5) (by first | omega | (simp only [up_app, Nat.reduceEqDiff, Int.reduceEq, and_true, true_and, and_self, and_false, false_and, if_true, if_false, reduceIte]; omega)) (by first | omega | (simp only [up_app, Nat.reduceEqDiff, Int.reduceEq, and_true, true_and, and_self, and_false, false_and, if_true, if_false, reduceIte]; omega)) (by first | omega | (simp only [up_app, Nat.reduceEqDiff, Int.reduceEq, and_true, true_and, and_self, and_false, false_and, if_true, if_false, reduceIte]; omega)) ?_
      refine f_aload_n hZ dX7_notes_73 rfl ?_
      refine gX7_62 hZ dX7_notes_74 ?_
      refine f_iload_n hZ dX7_notes_77 rfl ?_
      refine f_aload_n hZ dX7_notes_78 rfl ?_
      refine gX7_301 hZ dX7_notes_79 (fun r79 => ?_)
      try simp only [up_app, Nat.reduceEqDiff, Int.reduceEq, and_true, true_and, and_self, and_false, false_and, if_true, if_false, reduceIte] at r79 ⊢
      refine f_iastore hZ dX7_notes_82 (by first | rfl | exact hC.t1 | exact hC.t2 | exact hC.t3 | exact hC.t4 | exact hC.t5) (by first | rfl | exact hC.l1 | exact hC.l2 | exact hC.l3 | exact hC.l4 | exact hC.l5) (by first | omega | (simp only [up_app, Nat.reduceEqDiff, Int.reduceEq, and_true, true_and, and_self, and_false, false_and, if_true, if_false, reduceIte]; omega)) (by first | omega | (simp only [up_app, Nat.reduceEqDiff, Int.reduceEq, and_true, true_and, and_self, and_false, false_and, if_true, if_false, reduceIte]; omega)) (by first | omega | (simp only [up_app, Nat.reduceEqDiff, Int.reduceEq, and_true, true_and, and_self, and_false, false_and, if_true, if_false, reduceIte]; omega)) ?_
      refine f_aload_n hZ dX7_notes_83 rfl ?_
      refine gX7_53 hZ dX7_notes_84 ?_
      refine f_iload_n hZ dX7_notes_87 rfl ?_
      refine f_iaload hZ dX7_notes_88 (by first | rfl | exact hC.t1 | exact hC.t2 | exact hC.t3 | exact hC.t4 | exact hC.t5) (by first | rfl | exact hC.l1 | exact hC.l2 | exact hC.l3 | exact hC.l4 | exact hC.l5) (by first | omega | (simp only [up_app, Nat.reduceEqDiff, Int.reduceEq, and_true, true_and, and_self, and_false, false_and, if_true, if_false, reduceIte]; omega)) (by first | omega | (simp only [up_app, Nat.reduceEqDiff, Int.reduceEq, and_true, true_and, and_self, and_false, false_and, if_true, if_false, reduceIte]; omega)) (fun r88 => ?_)
      try simp only [up_app, Nat.reduceEqDiff, Int.reduceEq, and_true, true_and, and_self, and_false, false_and, if_true, if_false, reduceIte] at r88 ⊢
      refine f_eq (tgt := 103) hZ dX7_notes_89 rfl (by first | omega | (simp only [up_app, Nat.reduceEqDiff, Int.reduceEq, and_true, true_and, and_self, and_false, false_and, if_true, if_false, reduceIte]; omega)) (fun h89 => ?_) (fun h89 => ?_)
      · refine f_aload_n hZ dX7_notes_103 rfl ?_
        refine gX7_59 hZ dX7_notes_104 ?_
        refine f_iload_n hZ dX7_notes_107 rfl ?_
        refine f_iload hZ dX7_notes_108 rfl ?_
        refine f_iastore hZ dX7_notes_110 (by first | rfl | exact hC.t1 | exact hC.t2 | exact hC.t3 | exact hC.t4 | exact hC.t5) (by first | rfl | exact hC.l1 | exact hC.l2 | exact hC.l3 | exact hC.l4 | exact hC.l5) (by first | omega | (simp only [up_app, Nat.reduceEqDiff, Int.reduceEq, and_true, true_and, and_self, and_false, false_and, if_true, if_false, reduceIte]; omega)) (by first | omega | (simp only [up_app, Nat.reduceEqDiff, Int.reduceEq, and_true, true_and, and_self, and_false, false_and, if_true, if_false, reduceIte]; omega)) (by first | omega | (simp only [up_app, Nat.reduceEqDiff, Int.reduceEq, and_true, true_and, and_self, and_false, false_and, if_true, if_false, reduceIte]; omega)) ?_
        refine f_aload_n hZ dX7_notes_111 rfl ?_
        refine gX7_53 hZ dX7_notes_112 ?_
        refine f_iload_n hZ dX7_notes_115 rfl ?_
        refine f_iconst hZ dX7_notes_116 ?_
        refine f_iastore hZ dX7_notes_117 (by first | rfl | exact hC.t1 | exact hC.t2 | exact hC.t3 | exact hC.t4 | exact hC.t5) (by first | rfl | exact hC.l1 | exact hC.l2 | exact hC.l3 | exact hC.l4 | exact hC.l5) (by first | omega | (simp only [up_app, Nat.reduceEqDiff, Int.reduceEq, and_true, true_and, and_self, and_false, false_and, if_true, if_false, reduceIte]; omega)) (by first | omega | (simp only [up_app, Nat.reduceEqDiff, Int.reduceEq, and_true, true_and, and_self, and_false, false_and, if_true, if_false, reduceIte]; omega)) (by first | omega | (simp only [up_app, Nat.reduceEqDiff, Int.reduceEq, and_true, true_and, and_self, and_false, false_and, if_true, if_false, reduceIte]; omega)) ?_
        refine f_iconst hZ dX7_notes_118 ?_
        refine f_istore (L' := [_, _, _, _, _, _]) hZ dX7_notes_119 rfl rfl ?_
        first
          | (exfalso; omega)
          | (refine hrl _ ?_; exact no_mk hn hx he hc hg (fun k hk => by (repeat rw [up_ne (by omega)])) (fun y hy => by simp [up_app, hy]) (by simp [up_app]) (Or.inl ⟨by simp [up_app], by simp [up_app], Or.inl (by omega)⟩) (Or.inl ⟨by simp [up_app], Or.inl (by omega)⟩))
          | (refine hrl _ ?_; exact no_mk hn hx he hc hg (fun k hk => by (repeat rw [up_ne (by omega)])) (fun y hy => by simp [up_app, hy]) (by simp [up_app]) (Or.inl ⟨by simp [up_app], by simp [up_app], Or.inl (by omega)⟩) (Or.inl ⟨by simp [up_app], Or.inr (by omega)⟩))
          | (refine hrl _ ?_; exact no_mk hn hx he hc hg (fun k hk => by (repeat rw [up_ne (by omega)])) (fun y hy => by simp [up_app, hy]) (by simp [up_app]) (Or.inl ⟨by simp [up_app], by simp [up_app], Or.inl (by omega)⟩) (Or.inr ⟨by simp [up_app], by omega, by omega⟩))
          | (refine hrl _ ?_; exact no_mk hn hx he hc hg (fun k hk => by (repeat rw [up_ne (by omega)])) (fun y hy => by simp [up_app, hy]) (by simp [up_app]) (Or.inl ⟨by simp [up_app], by simp [up_app], Or.inr (Or.inl (by omega))⟩) (Or.inl ⟨by simp [up_app], Or.inl (by omega)⟩))
          | (refine hrl _ ?_; exact no_mk hn hx he hc hg (fun k hk => by (repeat rw [up_ne (by omega)])) (fun y hy => by simp [up_app, hy]) (by simp [up_app]) (Or.inl ⟨by simp [up_app], by simp [up_app], Or.inr (Or.inl (by omega))⟩) (Or.inl ⟨by simp [up_app], Or.inr (by omega)⟩))
          | (refine hrl _ ?_; exact no_mk hn hx he hc hg (fun k hk => by (repeat rw [up_ne (by omega)])) (fun y hy => by simp [up_app, hy]) (by simp [up_app]) (Or.inl ⟨by simp [up_app], by simp [up_app], Or.inr (Or.inl (by omega))⟩) (Or.inr ⟨by simp [up_app], by omega, by omega⟩))
          | (refine hrl _ ?_; exact no_mk hn hx he hc hg (fun k hk => by (repeat rw [up_ne (by omega)])) (fun y hy => by simp [up_app, hy]) (by simp [up_app]) (Or.inl ⟨by simp [up_app], by simp [up_app], Or.inr (Or.inr ⟨by omega, by omega⟩)⟩) (Or.inl ⟨by simp [up_app], Or.inl (by omega)⟩))
          | (refine hrl _ ?_; exact no_mk hn hx he hc hg (fun k hk => by (repeat rw [up_ne (by omega)])) (fun y hy => by simp [up_app, hy]) (by simp [up_app]) (Or.inl ⟨by simp [up_app], by simp [up_app], Or.inr (Or.inr ⟨by omega, by omega⟩)⟩) (Or.inl ⟨by simp [up_app], Or.inr (by omega)⟩))
          | (refine hrl _ ?_; exact no_mk hn hx he hc hg (fun k hk => by (repeat rw [up_ne (by omega)])) (fun y hy => by simp [up_app, hy]) (by simp [up_app]) (Or.inl ⟨by simp [up_app], by simp [up_app], Or.inr (Or.inr ⟨by omega, by omega⟩)⟩) (Or.inr ⟨by simp [up_app], by omega, by omega⟩))
          | (refine hrl _ ?_; exact no_mk hn hx he hc hg (fun k hk => by (repeat rw [up_ne (by omega)])) (fun y hy => by simp [up_app, hy]) (by simp [up_app]) (Or.inr ⟨by simp [up_app], by simp [up_app], by omega, Or.inl (by omega)⟩) (Or.inl ⟨by simp [up_app], Or.inl (by omega)⟩))
          | (refine hrl _ ?_; exact no_mk hn hx he hc hg (fun k hk => by (repeat rw [up_ne (by omega)])) (fun y hy => by simp [up_app, hy]) (by simp [up_app]) (Or.inr ⟨by simp [up_app], by simp [up_app], by omega, Or.inl (by omega)⟩) (Or.inl ⟨by simp [up_app], Or.inr (by omega)⟩))
          | (refine hrl _ ?_; exact no_mk hn hx he hc hg (fun k hk => by (repeat rw [up_ne (by omega)])) (fun y hy => by simp [up_app, hy]) (by simp [up_app]) (Or.inr ⟨by simp [up_app], by simp [up_app], by omega, Or.inl (by omega)⟩) (Or.inr ⟨by simp [up_app], by omega, by omega⟩))
          | (refine hrl _ ?_; exact no_mk hn hx he hc hg (fun k hk => by (repeat rw [up_ne (by omega)])) (fun y hy => by simp [up_app, hy]) (by simp [up_app]) (Or.inr ⟨by simp [up_app], by simp [up_app], by omega, Or.inr ⟨by omega, by omega⟩⟩) (Or.inl ⟨by simp [up_app], Or.inl (by omega)⟩))
          | (refine hrl _ ?_; exact no_mk hn hx he hc hg (fun k hk => by (repeat rw [up_ne (by omega)])) (fun y hy => by simp [up_app, hy]) (by simp [up_app]) (Or.inr ⟨by simp [up_app], by simp [up_app], by omega, Or.inr ⟨by omega, by omega⟩⟩) (Or.inl ⟨by simp [up_app], Or.inr (by omega)⟩))
          | (refine hrl _ ?_; exact no_mk hn hx he hc hg (fun k hk => by (repeat rw [up_ne (by omega)])) (fun y hy => by simp [up_app, hy]) (by simp [up_app]) (Or.inr ⟨by simp [up_app], by simp [up_app], by omega, Or.inr ⟨by omega, by omega⟩⟩) (Or.inr ⟨by simp [up_app], by omega, by omega⟩))
      · refine f_iload hZ dX7_notes_92 rfl ?_
        refine f_aload_n hZ dX7_notes_94 rfl ?_
        refine gX7_59 hZ dX7_notes_95 ?_
        refine f_iload_n hZ dX7_notes_98 rfl ?_
        refine f_iaload hZ dX7_notes_99 (by first | rfl | exact hC.t1 | exact hC.t2 | exact hC.t3 | exact hC.t4 | exact hC.t5) (by first | rfl | exact hC.l1 | exact hC.l2 | exact hC.l3 | exact hC.l4 | exact hC.l5) (by first | omega | (simp only [up_app, Nat.reduceEqDiff, Int.reduceEq, and_true, true_and, and_self, and_false, false_and, if_true, if_false, reduceIte]; omega)) (by first | omega | (simp only [up_app, Nat.reduceEqDiff, Int.reduceEq, and_true, true_and, and_self, and_false, false_and, if_true, if_false, reduceIte]; omega)) (fun r99 => ?_)
        try simp only [up_app, Nat.reduceEqDiff, Int.reduceEq, and_true, true_and, and_self, and_false, false_and, if_true, if_false, reduceIte] at r99 ⊢
        refine f_ige (tgt := 111) hZ dX7_notes_100 rfl (by first | omega | (simp only [up_app, Nat.reduceEqDiff, Int.reduceEq, and_true, true_and, and_self, and_false, false_and, if_true, if_false, reduceIte]; omega)) (by first | omega | (simp only [up_app, Nat.reduceEqDiff, Int.reduceEq, and_true, true_and, and_self, and_false, false_and, if_true, if_false, reduceIte]; omega)) (fun h100 => ?_) (fun h100 => ?_)
        · refine f_aload_n hZ dX7_notes_111 rfl ?_
          refine gX7_53 hZ dX7_notes_112 ?_
          refine f_iload_n hZ dX7_notes_115 rfl ?_
          refine f_iconst hZ dX7_notes_116 ?_
          refine f_iastore hZ dX7_notes_117 (by first | rfl | exact hC.t1 | exact hC.t2 | exact hC.t3 | exact hC.t4 | exact hC.t5) (by first | rfl | exact hC.l1 | exact hC.l2 | exact hC.l3 | exact hC.l4 | exact hC.l5) (by first | omega | (simp only [up_app, Nat.reduceEqDiff, Int.reduceEq, and_true, true_and, and_self, and_false, false_and, if_true, if_false, reduceIte]; omega)) (by first | omega | (simp only [up_app, Nat.reduceEqDiff, Int.reduceEq, and_true, true_and, and_self, and_false, false_and, if_true, if_false, reduceIte]; omega)) (by first | omega | (simp only [up_app, Nat.reduceEqDiff, Int.reduceEq, and_true, true_and, and_self, and_false, false_and, if_true, if_false, reduceIte]; omega)) ?_
          refine f_iconst hZ dX7_notes_118 ?_
          refine f_istore (L' := [_, _, _, _, _, _]) hZ dX7_notes_119 rfl rfl ?_
          first
            | (exfalso; omega)
            | (refine hrl _ ?_; exact no_mk hn hx he hc hg (fun k hk => by (repeat rw [up_ne (by omega)])) (fun y hy => by simp [up_app, hy]) (by simp [up_app]) (Or.inl ⟨by simp [up_app], by simp [up_app], Or.inl (by omega)⟩) (Or.inl ⟨by simp [up_app], Or.inl (by omega)⟩))
            | (refine hrl _ ?_; exact no_mk hn hx he hc hg (fun k hk => by (repeat rw [up_ne (by omega)])) (fun y hy => by simp [up_app, hy]) (by simp [up_app]) (Or.inl ⟨by simp [up_app], by simp [up_app], Or.inl (by omega)⟩) (Or.inl ⟨by simp [up_app], Or.inr (by omega)⟩))
            | (refine hrl _ ?_; exact no_mk hn hx he hc hg (fun k hk => by (repeat rw [up_ne (by omega)])) (fun y hy => by simp [up_app, hy]) (by simp [up_app]) (Or.inl ⟨by simp [up_app], by simp [up_app], Or.inl (by omega)⟩) (Or.inr ⟨by simp [up_app], by omega, by omega⟩))
            | (refine hrl _ ?_; exact no_mk hn hx he hc hg (fun k hk => by (repeat rw [up_ne (by omega)])) (fun y hy => by simp [up_app, hy]) (by simp [up_app]) (Or.inl ⟨by simp [up_app], by simp [up_app], Or.inr (Or.inl (by omega))⟩) (Or.inl ⟨by simp [up_app], Or.inl (by omega)⟩))
            | (refine hrl _ ?_; exact no_mk hn hx he hc hg (fun k hk => by (repeat rw [up_ne (by omega)])) (fun y hy => by simp [up_app, hy]) (by simp [up_app]) (Or.inl ⟨by simp [up_app], by simp [up_app], Or.inr (Or.inl (by omega))⟩) (Or.inl ⟨by simp [up_app], Or.inr (by omega)⟩))
            | (refine hrl _ ?_; exact no_mk hn hx he hc hg (fun k hk => by (repeat rw [up_ne (by omega)])) (fun y hy => by simp [up_app, hy]) (by simp [up_app]) (Or.inl ⟨by simp [up_app], by simp [up_app], Or.inr (Or.inl (by omega))⟩) (Or.inr ⟨by simp [up_app], by omega, by omega⟩))
            | (refine hrl _ ?_; exact no_mk hn hx he hc hg (fun k hk => by (repeat rw [up_ne (by omega)])) (fun y hy => by simp [up_app, hy]) (by simp [up_app]) (Or.inl ⟨by simp [up_app], by simp [up_app], Or.inr (Or.inr ⟨by omega, by omega⟩)⟩) (Or.inl ⟨by simp [up_app], Or.inl (by omega)⟩))
            | (refine hrl _ ?_; exact no_mk hn hx he hc hg (fun k hk => by (repeat rw [up_ne (by omega)])) (fun y hy => by simp [up_app, hy]) (by simp [up_app]) (Or.inl ⟨by simp [up_app], by simp [up_app], Or.inr (Or.inr ⟨by omega, by omega⟩)⟩) (Or.inl ⟨by simp [up_app], Or.inr (by omega)⟩))
            | (refine hrl _ ?_; exact no_mk hn hx he hc hg (fun k hk => by (repeat rw [up_ne (by omega)])) (fun y hy => by simp [up_app, hy]) (by simp [up_app]) (Or.inl ⟨by simp [up_app], by simp [up_app], Or.inr (Or.inr ⟨by omega, by omega⟩)⟩) (Or.inr ⟨by simp [up_app], by omega, by omega⟩))
            | (refine hrl _ ?_; exact no_mk hn hx he hc hg (fun k hk => by (repeat rw [up_ne (by omega)])) (fun y hy => by simp [up_app, hy]) (by simp [up_app]) (Or.inr ⟨by simp [up_app], by simp [up_app], by omega, Or.inl (by omega)⟩) (Or.inl ⟨by simp [up_app], Or.inl (by omega)⟩))
            | (refine hrl _ ?_; exact no_mk hn hx he hc hg (fun k hk => by (repeat rw [up_ne (by omega)])) (fun y hy => by simp [up_app, hy]) (by simp [up_app]) (Or.inr ⟨by simp [up_app], by simp [up_app], by omega, Or.inl (by omega)⟩) (Or.inl ⟨by simp [up_app], Or.inr (by omega)⟩))
            | (refine hrl _ ?_; exact no_mk hn hx he hc hg (fun k hk => by (repeat rw [up_ne (by omega)])) (fun y hy => by simp [up_app, hy]) (by simp [up_app]) (Or.inr ⟨by simp [up_app], by simp [up_app], by omega, Or.inl (by omega)⟩) (Or.inr ⟨by simp [up_app], by omega, by omega⟩))
            | (refine hrl _ ?_; exact no_mk hn hx he hc hg (fun k hk => by (repeat rw [up_ne (by omega)])) (fun y hy => by simp [up_app, hy]) (by simp [up_app]) (Or.inr ⟨by simp [up_app], by simp [up_app], by omega, Or.inr ⟨by omega, by omega⟩⟩) (Or.inl ⟨by simp [up_app], Or.inl (by omega)⟩))
            | (refine hrl _ ?_; exact no_mk hn hx he hc hg (fun k hk => by (repeat rw [up_ne (by omega)])) (fun y hy => by simp [up_app, hy]) (by simp [up_app]) (Or.inr ⟨by simp [up_app], by simp [up_app], by omega, Or.inr ⟨by omega, by omega⟩⟩) (Or.inl ⟨by simp [up_app], Or.inr (by omega)⟩))
            | (refine hrl _ ?_; exact no_mk hn hx he hc hg (fun k hk => by (repeat rw [up_ne (by omega)])) (fun y hy => by simp [up_app, hy]) (by simp [up_app]) (Or.inr ⟨by simp [up_app], by simp [up_app], by omega, Or.inr ⟨by omega, by omega⟩⟩) (Or.inr ⟨by simp [up_app], by omega, by omega⟩))
        · refine f_aload_n hZ dX7_notes_103 rfl ?_
          refine gX7_59 hZ dX7_notes_104 ?_
          refine f_iload_n hZ dX7_notes_107 rfl ?_
          refine f_iload hZ dX7_notes_108 rfl ?_
          refine f_iastore hZ dX7_notes_110 (by first | rfl | exact hC.t1 | exact hC.t2 | exact hC.t3 | exact hC.t4 | exact hC.t5) (by first | rfl | exact hC.l1 | exact hC.l2 | exact hC.l3 | exact hC.l4 | exact hC.l5) (by first | omega | (simp only [up_app, Nat.reduceEqDiff, Int.reduceEq, and_true, true_and, and_self, and_false, false_and, if_true, if_false, reduceIte]; omega)) (by first | omega | (simp only [up_app, Nat.reduceEqDiff, Int.reduceEq, and_true, true_and, and_self, and_false, false_and, if_true, if_false, reduceIte]; omega)) (by first | omega | (simp only [up_app, Nat.reduceEqDiff, Int.reduceEq, and_true, true_and, and_self, and_false, false_and, if_true, if_false, reduceIte]; omega)) ?_
          refine f_aload_n hZ dX7_notes_111 rfl ?_
          refine gX7_53 hZ dX7_notes_112 ?_
          refine f_iload_n hZ dX7_notes_115 rfl ?_
          refine f_iconst hZ dX7_notes_116 ?_
          refine f_iastore hZ dX7_notes_117 (by first | rfl | exact hC.t1 | exact hC.t2 | exact hC.t3 | exact hC.t4 | exact hC.t5) (by first | rfl | exact hC.l1 | exact hC.l2 | exact hC.l3 | exact hC.l4 | exact hC.l5) (by first | omega | (simp only [up_app, Nat.reduceEqDiff, Int.reduceEq, and_true, true_and, and_self, and_false, false_and, if_true, if_false, reduceIte]; omega)) (by first | omega | (simp only [up_app, Nat.reduceEqDiff, Int.reduceEq, and_true, true_and, and_self, and_false, false_and, if_true, if_false, reduceIte]; omega)) (by first | omega | (simp only [up_app, Nat.reduceEqDiff, Int.reduceEq, and_true, true_and, and_self, and_false, false_and, if_true, if_false, reduceIte]; omega)) ?_
          refine f_iconst hZ dX7_notes_118 ?_
          refine f_istore (L' := [_, _, _, _, _, _]) hZ dX7_notes_119 rfl rfl ?_
          first
            | (exfalso; omega)
            | (refine hrl _ ?_; exact no_mk hn hx he hc hg (fun k hk => by (repeat rw [up_ne (by omega)])) (fun y hy => by simp [up_app, hy]) (by simp [up_app]) (Or.inl ⟨by simp [up_app], by simp [up_app], Or.inl (by omega)⟩) (Or.inl ⟨by simp [up_app], Or.inl (by omega)⟩))
            | (refine hrl _ ?_; exact no_mk hn hx he hc hg (fun k hk => by (repeat rw [up_ne (by omega)])) (fun y hy => by simp [up_app, hy]) (by simp [up_app]) (Or.inl ⟨by simp [up_app], by simp [up_app], Or.inl (by omega)⟩) (Or.inl ⟨by simp [up_app], Or.inr (by omega)⟩))
            | (refine hrl _ ?_; exact no_mk hn hx he hc hg (fun k hk => by (repeat rw [up_ne (by omega)])) (fun y hy => by simp [up_app, hy]) (by simp [up_app]) (Or.inl ⟨by simp [up_app], by simp [up_app], Or.inl (by omega)⟩) (Or.inr ⟨by simp [up_app], by omega, by omega⟩))
            | (refine hrl _ ?_; exact no_mk hn hx he hc hg (fun k hk => by (repeat rw [up_ne (by omega)])) (fun y hy => by simp [up_app, hy]) (by simp [up_app]) (Or.inl ⟨by simp [up_app], by simp [up_app], Or.inr (Or.inl (by omega))⟩) (Or.inl ⟨by simp [up_app], Or.inl (by omega)⟩))
            | (refine hrl _ ?_; exact no_mk hn hx he hc hg (fun k hk => by (repeat rw [up_ne (by omega)])) (fun y hy => by simp [up_app, hy]) (by simp [up_app]) (Or.inl ⟨by simp [up_app], by simp [up_app], Or.inr (Or.inl (by omega))⟩) (Or.inl ⟨by simp [up_app], Or.inr (by omega)⟩))
            | (refine hrl _ ?_; exact no_mk hn hx he hc hg (fun k hk => by (repeat rw [up_ne (by omega)])) (fun y hy => by simp [up_app, hy]) (by simp [up_app]) (Or.inl ⟨by simp [up_app], by simp [up_app], Or.inr (Or.inl (by omega))⟩) (Or.inr ⟨by simp [up_app], by omega, by omega⟩))
            | (refine hrl _ ?_; exact no_mk hn hx he hc hg (fun k hk => by (repeat rw [up_ne (by omega)])) (fun y hy => by simp [up_app, hy]) (by simp [up_app]) (Or.inl ⟨by simp [up_app], by simp [up_app], Or.inr (Or.inr ⟨by omega, by omega⟩)⟩) (Or.inl ⟨by simp [up_app], Or.inl (by omega)⟩))
            | (refine hrl _ ?_; exact no_mk hn hx he hc hg (fun k hk => by (repeat rw [up_ne (by omega)])) (fun y hy => by simp [up_app, hy]) (by simp [up_app]) (Or.inl ⟨by simp [up_app], by simp [up_app], Or.inr (Or.inr ⟨by omega, by omega⟩)⟩) (Or.inl ⟨by simp [up_app], Or.inr (by omega)⟩))
            | (refine hrl _ ?_; exact no_mk hn hx he hc hg (fun k hk => by (repeat rw [up_ne (by omega)])) (fun y hy => by simp [up_app, hy]) (by simp [up_app]) (Or.inl ⟨by simp [up_app], by simp [up_app], Or.inr (Or.inr ⟨by omega, by omega⟩)⟩) (Or.inr ⟨by simp [up_app], by omega, by omega⟩))
            | (refine hrl _ ?_; exact no_mk hn hx he hc hg (fun k hk => by (repeat rw [up_ne (by omega)])) (fun y hy => by simp [up_app, hy]) (by simp [up_app]) (Or.inr ⟨by simp [up_app], by simp [up_app], by omega, Or.inl (by omega)⟩) (Or.inl ⟨by simp [up_app], Or.inl (by omega)⟩))
            | (refine hrl _ ?_; exact no_mk hn hx he hc hg (fun k hk => by (repeat rw [up_ne (by omega)])) (fun y hy => by simp [up_app, hy]) (by simp [up_app]) (Or.inr ⟨by simp [up_app], by simp [up_app], by omega, Or.inl (by omega)⟩) (Or.inl ⟨by simp [up_app], Or.inr (by omega)⟩))
            | (refine hrl _ ?_; exact no_mk hn hx he hc hg (fun k hk => by (repeat rw [up_ne (by omega)])) (fun y hy => by simp [up_app, hy]) (by simp [up_app]) (Or.inr ⟨by simp [up_app], by simp [up_app], by omega, Or.inl (by omega)⟩) (Or.inr ⟨by simp [up_app], by omega, by omega⟩))
            | (refine hrl _ ?_; exact no_mk hn hx he hc hg (fun k hk => by (repeat rw [up_ne (by omega)])) (fun y hy => by simp [up_app, hy]) (by simp [up_app]) (Or.inr ⟨by simp [up_app], by simp [up_app], by omega, Or.inr ⟨by omega, by omega⟩⟩) (Or.inl ⟨by simp [up_app], Or.inl (by omega)⟩))
            | (refine hrl _ ?_; exact no_mk hn hx he hc hg (fun k hk => by (repeat rw [up_ne (by omega)])) (fun y hy => by simp [up_app, hy]) (by simp [up_app]) (Or.inr ⟨by simp [up_app], by simp [up_app], by omega, Or.inr ⟨by omega, by omega⟩⟩) (Or.inl ⟨by simp [up_app], Or.inr (by omega)⟩))
            | (refine hrl _ ?_; exact no_mk hn hx he hc hg (fun k hk => by (repeat rw [up_ne (by omega)])) (fun y hy => by simp [up_app, hy]) (by simp [up_app]) (Or.inr ⟨by simp [up_app], by simp [up_app], by omega, Or.inr ⟨by omega, by omega⟩⟩) (Or.inr ⟨by simp [up_app], by omega, by omega⟩))
    · refine f_iload_n hZ dX7_notes_43 rfl ?_
      refine f_aload_n hZ dX7_notes_44 rfl ?_
      refine gX7_56 hZ dX7_notes_45 ?_
      refine f_iload_n hZ dX7_notes_48 rfl ?_
      refine f_iaload hZ dX7_notes_49 (by first | rfl | exact hC.t1 | exact hC.t2 | exact hC.t3 | exact hC.t4 | exact hC.t5) (by first | rfl | exact hC.l1 | exact hC.l2 | exact hC.l3 | exact hC.l4 | exact hC.l5) (by first | omega | (simp only [up_app, Nat.reduceEqDiff, Int.reduceEq, and_true, true_and, and_self, and_false, false_and, if_true, if_false, reduceIte]; omega)) (by first | omega | (simp only [up_app, Nat.reduceEqDiff, Int.reduceEq, and_true, true_and, and_self, and_false, false_and, if_true, if_false, reduceIte]; omega)) (fun r49 => ?_)
      refine f_ine (tgt := 83) hZ dX7_notes_50 rfl (by first | omega | (simp only [up_app, Nat.reduceEqDiff, Int.reduceEq, and_true, true_and, and_self, and_false, false_and, if_true, if_false, reduceIte]; omega)) (by first | omega | (simp only [up_app, Nat.reduceEqDiff, Int.reduceEq, and_true, true_and, and_self, and_false, false_and, if_true, if_false, reduceIte]; omega)) (fun h50 => ?_) (fun h50 => ?_)
      · refine f_aload_n hZ dX7_notes_83 rfl ?_
        refine gX7_53 hZ dX7_notes_84 ?_
        refine f_iload_n hZ dX7_notes_87 rfl ?_
        refine f_iaload hZ dX7_notes_88 (by first | rfl | exact hC.t1 | exact hC.t2 | exact hC.t3 | exact hC.t4 | exact hC.t5) (by first | rfl | exact hC.l1 | exact hC.l2 | exact hC.l3 | exact hC.l4 | exact hC.l5) (by first | omega | (simp only [up_app, Nat.reduceEqDiff, Int.reduceEq, and_true, true_and, and_self, and_false, false_and, if_true, if_false, reduceIte]; omega)) (by first | omega | (simp only [up_app, Nat.reduceEqDiff, Int.reduceEq, and_true, true_and, and_self, and_false, false_and, if_true, if_false, reduceIte]; omega)) (fun r88 => ?_)
        refine f_eq (tgt := 103) hZ dX7_notes_89 rfl (by first | omega | (simp only [up_app, Nat.reduceEqDiff, Int.reduceEq, and_true, true_and, and_self, and_false, false_and, if_true, if_false, reduceIte]; omega)) (fun h89 => ?_) (fun h89 => ?_)
        · refine f_aload_n hZ dX7_notes_103 rfl ?_
          refine gX7_59 hZ dX7_notes_104 ?_
          refine f_iload_n hZ dX7_notes_107 rfl ?_
          refine f_iload hZ dX7_notes_108 rfl ?_
          refine f_iastore hZ dX7_notes_110 (by first | rfl | exact hC.t1 | exact hC.t2 | exact hC.t3 | exact hC.t4 | exact hC.t5) (by first | rfl | exact hC.l1 | exact hC.l2 | exact hC.l3 | exact hC.l4 | exact hC.l5) (by first | omega | (simp only [up_app, Nat.reduceEqDiff, Int.reduceEq, and_true, true_and, and_self, and_false, false_and, if_true, if_false, reduceIte]; omega)) (by first | omega | (simp only [up_app, Nat.reduceEqDiff, Int.reduceEq, and_true, true_and, and_self, and_false, false_and, if_true, if_false, reduceIte]; omega)) (by first | omega | (simp only [up_app, Nat.reduceEqDiff, Int.reduceEq, and_true, true_and, and_self, and_false, false_and, if_true, if_false, reduceIte]; omega)) ?_
          refine f_aload_n hZ dX7_notes_111 rfl ?_
          refine gX7_53 hZ dX7_notes_112 ?_
          refine f_iload_n hZ dX7_notes_115 rfl ?_
          refine f_iconst hZ dX7_notes_116 ?_
          refine f_iastore hZ dX7_notes_117 (by first | rfl | exact hC.t1 | exact hC.t2 | exact hC.t3 | exact hC.t4 | exact hC.t5) (by first | rfl | exact hC.l1 | exact hC.l2 | exact hC.l3 | exact hC.l4 | exact hC.l5) (by first | omega | (simp only [up_app, Nat.reduceEqDiff, Int.reduceEq, and_true, true_and, and_self, and_false, false_and, if_true, if_false, reduceIte]; omega)) (by first | omega | (simp only [up_app, Nat.reduceEqDiff, Int.reduceEq, and_true, true_and, and_self, and_false, false_and, if_true, if_false, reduceIte]; omega)) (by first | omega | (simp only [up_app, Nat.reduceEqDiff, Int.reduceEq, and_true, true_and, and_self, and_false, false_and, if_true, if_false, reduceIte]; omega)) ?_
          refine f_iconst hZ dX7_notes_118 ?_
          refine f_istore (L' := [_, _, _, _, _, _]) hZ dX7_notes_119 rfl rfl ?_
          first
            | (exfalso; omega)
            | (refine hrl _ ?_; exact no_mk hn hx he hc hg (fun k hk => by (repeat rw [up_ne (by omega)])) (fun y hy => by simp [up_app, hy]) (by simp [up_app]) (Or.inl ⟨by simp [up_app], by simp [up_app], Or.inl (by omega)⟩) (Or.inl ⟨by simp [up_app], Or.inl (by omega)⟩))
            | (refine hrl _ ?_; exact no_mk hn hx he hc hg (fun k hk => by (repeat rw [up_ne (by omega)])) (fun y hy => by simp [up_app, hy]) (by simp [up_app]) (Or.inl ⟨by simp [up_app], by simp [up_app], Or.inl (by omega)⟩) (Or.inl ⟨by simp [up_app], Or.inr (by omega)⟩))
            | (refine hrl _ ?_; exact no_mk hn hx he hc hg (fun k hk => by (repeat rw [up_ne (by omega)])) (fun y hy => by simp [up_app, hy]) (by simp [up_app]) (Or.inl ⟨by simp [up_app], by simp [up_app], Or.inl (by omega)⟩) (Or.inr ⟨by simp [up_app], by omega, by omega⟩))
            | (refine hrl _ ?_; exact no_mk hn hx he hc hg (fun k hk => by (repeat rw [up_ne (by omega)])) (fun y hy => by simp [up_app, hy]) (by simp [up_app]) (Or.inl ⟨by simp [up_app], by simp [up_app], Or.inr (Or.inl (by omega))⟩) (Or.inl ⟨by simp [up_app], Or.inl (by omega)⟩))
            | (refine hrl _ ?_; exact no_mk hn hx he hc hg (fun k hk => by (repeat rw [up_ne (by omega)])) (fun y hy => by simp [up_app, hy]) (by simp [up_app]) (Or.inl ⟨by simp [up_app], by simp [up_app], Or.inr (Or.inl (by omega))⟩) (Or.inl ⟨by simp [up_app], Or.inr (by omega)⟩))
            | (refine hrl _ ?_; exact no_mk hn hx he hc hg (fun k hk => by (repeat rw [up_ne (by omega)])) (fun y hy => by simp [up_app, hy]) (by simp [up_app]) (Or.inl ⟨by simp [up_app], by simp [up_app], Or.inr (Or.inl (by omega))⟩) (Or.inr ⟨by simp [up_app], by omega, by omega⟩))
            | (refine hrl _ ?_; exact no_mk hn hx he hc hg (fun k hk => by (repeat rw [up_ne (by omega)])) (fun y hy => by simp [up_app, hy]) (by simp [up_app]) (Or.inl ⟨by simp [up_app], by simp [up_app], Or.inr (Or.inr ⟨by omega, by omega⟩)⟩) (Or.inl ⟨by simp [up_app], Or.inl (by omega)⟩))
            | (refine hrl _ ?_; exact no_mk hn hx he hc hg (fun k hk => by (repeat rw [up_ne (by omega)])) (fun y hy => by simp [up_app, hy]) (by simp [up_app]) (Or.inl ⟨by simp [up_app], by simp [up_app], Or.inr (Or.inr ⟨by omega, by omega⟩)⟩) (Or.inl ⟨by simp [up_app], Or.inr (by omega)⟩))
            | (refine hrl _ ?_; exact no_mk hn hx he hc hg (fun k hk => by (repeat rw [up_ne (by omega)])) (fun y hy => by simp [up_app, hy]) (by simp [up_app]) (Or.inl ⟨by simp [up_app], by simp [up_app], Or.inr (Or.inr ⟨by omega, by omega⟩)⟩) (Or.inr ⟨by simp [up_app], by omega, by omega⟩))
            | (refine hrl _ ?_; exact no_mk hn hx he hc hg (fun k hk => by (repeat rw [up_ne (by omega)])) (fun y hy => by simp [up_app, hy]) (by simp [up_app]) (Or.inr ⟨by simp [up_app], by simp [up_app], by omega, Or.inl (by omega)⟩) (Or.inl ⟨by simp [up_app], Or.inl (by omega)⟩))
            | (refine hrl _ ?_; exact no_mk hn hx he hc hg (fun k hk => by (repeat rw [up_ne (by omega)])) (fun y hy => by simp [up_app, hy]) (by simp [up_app]) (Or.inr ⟨by simp [up_app], by simp [up_app], by omega, Or.inl (by omega)⟩) (Or.inl ⟨by simp [up_app], Or.inr (by omega)⟩))
            | (refine hrl _ ?_; exact no_mk hn hx he hc hg (fun k hk => by (repeat rw [up_ne (by omega)])) (fun y hy => by simp [up_app, hy]) (by simp [up_app]) (Or.inr ⟨by simp [up_app], by simp [up_app], by omega, Or.inl (by omega)⟩) (Or.inr ⟨by simp [up_app], by omega, by omega⟩))
            | (refine hrl _ ?_; exact no_mk hn hx he hc hg (fun k hk => by (repeat rw [up_ne (by omega)])) (fun y hy => by simp [up_app, hy]) (by simp [up_app]) (Or.inr ⟨by simp [up_app], by simp [up_app], by omega, Or.inr ⟨by omega, by omega⟩⟩) (Or.inl ⟨by simp [up_app], Or.inl (by omega)⟩))
            | (refine hrl _ ?_; exact no_mk hn hx he hc hg (fun k hk => by (repeat rw [up_ne (by omega)])) (fun y hy => by simp [up_app, hy]) (by simp [up_app]) (Or.inr ⟨by simp [up_app], by simp [up_app], by omega, Or.inr ⟨by omega, by omega⟩⟩) (Or.inl ⟨by simp [up_app], Or.inr (by omega)⟩))
            | (refine hrl _ ?_; exact no_mk hn hx he hc hg (fun k hk => by (repeat rw [up_ne (by omega)])) (fun y hy => by simp [up_app, hy]) (by simp [up_app]) (Or.inr ⟨by simp [up_app], by simp [up_app], by omega, Or.inr ⟨by omega, by omega⟩⟩) (Or.inr ⟨by simp [up_app], by omega, by omega⟩))
        · refine f_iload hZ dX7_notes_92 rfl ?_
          refine f_aload_n hZ dX7_notes_94 rfl ?_
          refine gX7_59 hZ dX7_notes_95 ?_
          refine f_iload_n hZ dX7_notes_98 rfl ?_
          refine f_iaload hZ dX7_notes_99 (by first | rfl | exact hC.t1 | exact hC.t2 | exact hC.t3 | exact hC.t4 | exact hC.t5) (by first | rfl | exact hC.l1 | exact hC.l2 | exact hC.l3 | exact hC.l4 | exact hC.l5) (by first | omega | (simp only [up_app, Nat.reduceEqDiff, Int.reduceEq, and_true, true_and, and_self, and_false, false_and, if_true, if_false, reduceIte]; omega)) (by first | omega | (simp only [up_app, Nat.reduceEqDiff, Int.reduceEq, and_true, true_and, and_self, and_false, false_and, if_true, if_false, reduceIte]; omega)) (fun r99 => ?_)
          refine f_ige (tgt := 111) hZ dX7_notes_100 rfl (by first | omega | (simp only [up_app, Nat.reduceEqDiff, Int.reduceEq, and_true, true_and, and_self, and_false, false_and, if_true, if_false, reduceIte]; omega)) (by first | omega | (simp only [up_app, Nat.reduceEqDiff, Int.reduceEq, and_true, true_and, and_self, and_false, false_and, if_true, if_false, reduceIte]; omega)) (fun h100 => ?_) (fun h100 => ?_)
          · refine f_aload_n hZ dX7_notes_111 rfl ?_
            refine gX7_53 hZ dX7_notes_112 ?_
            refine f_iload_n hZ dX7_notes_115 rfl ?_
            refine f_iconst hZ dX7_notes_116 ?_
            refine f_iastore hZ dX7_notes_117 (by first | rfl | exact hC.t1 | exact hC.t2 | exact hC.t3 | exact hC.t4 | exact hC.t5) (by first | rfl | exact hC.l1 | exact hC.l2 | exact hC.l3 | exact hC.l4 | exact hC.l5) (by first | omega | (simp only [up_app, Nat.reduceEqDiff, Int.reduceEq, and_true, true_and, and_self, and_false, false_and, if_true, if_false, reduceIte]; omega)) (by first | omega | (simp only [up_app, Nat.reduceEqDiff, Int.reduceEq, and_true, true_and, and_self, and_false, false_and, if_true, if_false, reduceIte]; omega)) (by first | omega | (simp only [up_app, Nat.reduceEqDiff, Int.reduceEq, and_true, true_and, and_self, and_false, false_and, if_true, if_false, reduceIte]; omega)) ?_
            refine f_iconst hZ dX7_notes_118 ?_
            refine f_istore (L' := [_, _, _, _, _, _]) hZ dX7_notes_119 rfl rfl ?_
            first
              | (exfalso; omega)
              | (refine hrl _ ?_; exact no_mk hn hx he hc hg (fun k hk => by (repeat rw [up_ne (by omega)])) (fun y hy => by simp [up_app, hy]) (by simp [up_app]) (Or.inl ⟨by simp [up_app], by simp [up_app], Or.inl (by omega)⟩) (Or.inl ⟨by simp [up_app], Or.inl (by omega)⟩))
              | (refine hrl _ ?_; exact no_mk hn hx he hc hg (fun k hk => by (repeat rw [up_ne (by omega)])) (fun y hy => by simp [up_app, hy]) (by simp [up_app]) (Or.inl ⟨by simp [up_app], by simp [up_app], Or.inl (by omega)⟩) (Or.inl ⟨by simp [up_app], Or.inr (by omega)⟩))
              | (refine hrl _ ?_; exact no_mk hn hx he hc hg (fun k hk => by (repeat rw [up_ne (by omega)])) (fun y hy => by simp [up_app, hy]) (by simp [up_app]) (Or.inl ⟨by simp [up_app], by simp [up_app], Or.inl (by omega)⟩) (Or.inr ⟨by simp [up_app], by omega, by omega⟩))
              | (refine hrl _ ?_; exact no_mk hn hx he hc hg (fun k hk => by (repeat rw [up_ne (by omega)])) (fun y hy => by simp [up_app, hy]) (by simp [up_app]) (Or.inl ⟨by simp [up_app], by simp [up_app], Or.inr (Or.inl (by omega))⟩) (Or.inl ⟨by simp [up_app], Or.inl (by omega)⟩))
              | (refine hrl _ ?_; exact no_mk hn hx he hc hg (fun k hk => by (repeat rw [up_ne (by omega)])) (fun y hy => by simp [up_app, hy]) (by simp [up_app]) (Or.inl ⟨by simp [up_app], by simp [up_app], Or.inr (Or.inl (by omega))⟩) (Or.inl ⟨by simp [up_app], Or.inr (by omega)⟩))
              | (refine hrl _ ?_; exact no_mk hn hx he hc hg (fun k hk => by (repeat rw [up_ne (by omega)])) (fun y hy => by simp [up_app, hy]) (by simp [up_app]) (Or.inl ⟨by simp [up_app], by simp [up_app], Or.inr (Or.inl (by omega))⟩) (Or.inr ⟨by simp [up_app], by omega, by omega⟩))
              | (refine hrl _ ?_; exact no_mk hn hx he hc hg (fun k hk => by (repeat rw [up_ne (by omega)])) (fun y hy => by simp [up_app, hy]) (by simp [up_app]) (Or.inl ⟨by simp [up_app], by simp [up_app], Or.inr (Or.inr ⟨by omega, by omega⟩)⟩) (Or.inl ⟨by simp [up_app], Or.inl (by omega)⟩))
              | (refine hrl _ ?_; exact no_mk hn hx he hc hg (fun k hk => by (repeat rw [up_ne (by omega)])) (fun y hy => by simp [up_app, hy]) (by simp [up_app]) (Or.inl ⟨by simp [up_app], by simp [up_app], Or.inr (Or.inr ⟨by omega, by omega⟩)⟩) (Or.inl ⟨by simp [up_app], Or.inr (by omega)⟩))
              | (refine hrl _ ?_; exact no_mk hn hx he hc hg (fun k hk => by (repeat rw [up_ne (by omega)])) (fun y hy => by simp [up_app, hy]) (by simp [up_app]) (Or.inl ⟨by simp [up_app], by simp [up_app], Or.inr (Or.inr ⟨by omega, by omega⟩)⟩) (Or.inr ⟨by simp [up_app], by omega, by omega⟩))
              | (refine hrl _ ?_; exact no_mk hn hx he hc hg (fun k hk => by (repeat rw [up_ne (by omega)])) (fun y hy => by simp [up_app, hy]) (by simp [up_app]) (Or.inr ⟨by simp [up_app], by simp [up_app], by omega, Or.inl (by omega)⟩) (Or.inl ⟨by simp [up_app], Or.inl (by omega)⟩))
              | (refine hrl _ ?_; exact no_mk hn hx he hc hg (fun k hk => by (repeat rw [up_ne (by omega)])) (fun y hy => by simp [up_app, hy]) (by simp [up_app]) (Or.inr ⟨by simp [up_app], by simp [up_app], by omega, Or.inl (by omega)⟩) (Or.inl ⟨by simp [up_app], Or.inr (by omega)⟩))
              | (refine hrl _ ?_; exact no_mk hn hx he hc hg (fun k hk => by (repeat rw [up_ne (by omega)])) (fun y hy => by simp [up_app, hy]) (by simp [up_app]) (Or.inr ⟨by simp [up_app], by simp [up_app], by omega, Or.inl (by omega)⟩) (Or.inr ⟨by simp [up_app], by omega, by omega⟩))
              | (refine hrl _ ?_; exact no_mk hn hx he hc hg (fun k hk => by (repeat rw [up_ne (by omega)])) (fun y hy => by simp [up_app, hy]) (by simp [up_app]) (Or.inr ⟨by simp [up_app], by simp [up_app], by omega, Or.inr ⟨by omega, by omega⟩⟩) (Or.inl ⟨by simp [up_app], Or.inl (by omega)⟩))
              | (refine hrl _ ?_; exact no_mk hn hx he hc hg (fun k hk => by (repeat rw [up_ne (by omega)])) (fun y hy => by simp [up_app, hy]) (by simp [up_app]) (Or.inr ⟨by simp [up_app], by simp [up_app], by omega, Or.inr ⟨by omega, by omega⟩⟩) (Or.inl ⟨by simp [up_app], Or.inr (by omega)⟩))
              | (refine hrl _ ?_; exact no_mk hn hx he hc hg (fun k hk => by (repeat rw [up_ne (by omega)])) (fun y hy => by simp [up_app, hy]) (by simp [up_app]) (Or.inr ⟨by simp [up_app], by simp [up_app], by omega, Or.inr ⟨by omega, by omega⟩⟩) (Or.inr ⟨by simp [up_app], by omega, by omega⟩))
          · refine f_aload_n hZ dX7_notes_103 rfl ?_
            refine gX7_59 hZ dX7_notes_104 ?_
            refine f_iload_n hZ dX7_notes_107 rfl ?_
            refine f_iload hZ dX7_notes_108 rfl ?_
            refine f_iastore hZ dX7_notes_110 (by first | rfl | exact hC.t1 | exact hC.t2 | exact hC.t3 | exact hC.t4 | exact hC.t5) (by first | rfl | exact hC.l1 | exact hC.l2 | exact hC.l3 | exact hC.l4 | exact hC.l5) (by first | omega | (simp only [up_app, Nat.reduceEqDiff, Int.reduceEq, and_true, true_and, and_self, and_false, false_and, if_true, if_false, reduceIte]; omega)) (by first | omega | (simp only [up_app, Nat.reduceEqDiff, Int.reduceEq, and_true, true_and, and_self, and_false, false_and, if_true, if_false, reduceIte]; omega)) (by first | omega | (simp only [up_app, Nat.reduceEqDiff, Int.reduceEq, and_true, true_and, and_self, and_false, false_and, if_true, if_false, reduceIte]; omega)) ?_
            refine f_aload_n hZ dX7_notes_111 rfl ?_
            refine gX7_53 hZ dX7_notes_112 ?_
            refine f_iload_n hZ dX7_notes_115 rfl ?_
            refine f_iconst hZ dX7_notes_116 ?_
            refine f_iastore hZ dX7_notes_117 (by first | rfl | exact hC.t1 | exact hC.t2 | exact hC.t3 | exact hC.t4 | exact hC.t5) (by first | rfl | exact hC.l1 | exact hC.l2 | exact hC.l3 | exact hC.l4 | exact hC.l5) (by first | omega | (simp only [up_app, Nat.reduceEqDiff, Int.reduceEq, and_true, true_and, and_self, and_false, false_and, if_true, if_false, reduceIte]; omega)) (by first | omega | (simp only [up_app, Nat.reduceEqDiff, Int.reduceEq, and_true, true_and, and_self, and_false, false_and, if_true, if_false, reduceIte]; omega)) (by first | omega | (simp only [up_app, Nat.reduceEqDiff, Int.reduceEq, and_true, true_and, and_self, and_false, false_and, if_true, if_false, reduceIte]; omega)) ?_
            refine f_iconst hZ dX7_notes_118 ?_
            refine f_istore (L' := [_, _, _, _, _, _]) hZ dX7_notes_119 rfl rfl ?_
            first
              | (exfalso; omega)
              | (refine hrl _ ?_; exact no_mk hn hx he hc hg (fun k hk => by (repeat rw [up_ne (by omega)])) (fun y hy => by simp [up_app, hy]) (by simp [up_app]) (Or.inl ⟨by simp [up_app], by simp [up_app], Or.inl (by omega)⟩) (Or.inl ⟨by simp [up_app], Or.inl (by omega)⟩))
              | (refine hrl _ ?_; exact no_mk hn hx he hc hg (fun k hk => by (repeat rw [up_ne (by omega)])) (fun y hy => by simp [up_app, hy]) (by simp [up_app]) (Or.inl ⟨by simp [up_app], by simp [up_app], Or.inl (by omega)⟩) (Or.inl ⟨by simp [up_app], Or.inr (by omega)⟩))
              | (refine hrl _ ?_; exact no_mk hn hx he hc hg (fun k hk => by (repeat rw [up_ne (by omega)])) (fun y hy => by simp [up_app, hy]) (by simp [up_app]) (Or.inl ⟨by simp [up_app], by simp [up_app], Or.inl (by omega)⟩) (Or.inr ⟨by simp [up_app], by omega, by omega⟩))
              | (refine hrl _ ?_; exact no_mk hn hx he hc hg (fun k hk => by (repeat rw [up_ne (by omega)])) (fun y hy => by simp [up_app, hy]) (by simp [up_app]) (Or.inl ⟨by simp [up_app], by simp [up_app], Or.inr (Or.inl (by omega))⟩) (Or.inl ⟨by simp [up_app], Or.inl (by omega)⟩))
              | (refine hrl _ ?_; exact no_mk hn hx he hc hg (fun k hk => by (repeat rw [up_ne (by omega)])) (fun y hy => by simp [up_app, hy]) (by simp [up_app]) (Or.inl ⟨by simp [up_app], by simp [up_app], Or.inr (Or.inl (by omega))⟩) (Or.inl ⟨by simp [up_app], Or.inr (by omega)⟩))
              | (refine hrl _ ?_; exact no_mk hn hx he hc hg (fun k hk => by (repeat rw [up_ne (by omega)])) (fun y hy => by simp [up_app, hy]) (by simp [up_app]) (Or.inl ⟨by simp [up_app], by simp [up_app], Or.inr (Or.inl (by omega))⟩) (Or.inr ⟨by simp [up_app], by omega, by omega⟩))
              | (refine hrl _ ?_; exact no_mk hn hx he hc hg (fun k hk => by (repeat rw [up_ne (by omega)])) (fun y hy => by simp [up_app, hy]) (by simp [up_app]) (Or.inl ⟨by simp [up_app], by simp [up_app], Or.inr (Or.inr ⟨by omega, by omega⟩)⟩) (Or.inl ⟨by simp [up_app], Or.inl (by omega)⟩))
              | (refine hrl _ ?_; exact no_mk hn hx he hc hg (fun k hk => by (repeat rw [up_ne (by omega)])) (fun y hy => by simp [up_app, hy]) (by simp [up_app]) (Or.inl ⟨by simp [up_app], by simp [up_app], Or.inr (Or.inr ⟨by omega, by omega⟩)⟩) (Or.inl ⟨by simp [up_app], Or.inr (by omega)⟩))
              | (refine hrl _ ?_; exact no_mk hn hx he hc hg (fun k hk => by (repeat rw [up_ne (by omega)])) (fun y hy => by simp [up_app, hy]) (by simp [up_app]) (Or.inl ⟨by simp [up_app], by simp [up_app], Or.inr (Or.inr ⟨by omega, by omega⟩)⟩) (Or.inr ⟨by simp [up_app], by omega, by omega⟩))
              | (refine hrl _ ?_; exact no_mk hn hx he hc hg (fun k hk => by (repeat rw [up_ne (by omega)])) (fun y hy => by simp [up_app, hy]) (by simp [up_app]) (Or.inr ⟨by simp [up_app], by simp [up_app], by omega, Or.inl (by omega)⟩) (Or.inl ⟨by simp [up_app], Or.inl (by omega)⟩))
              | (refine hrl _ ?_; exact no_mk hn hx he hc hg (fun k hk => by (repeat rw [up_ne (by omega)])) (fun y hy => by simp [up_app, hy]) (by simp [up_app]) (Or.inr ⟨by simp [up_app], by simp [up_app], by omega, Or.inl (by omega)⟩) (Or.inl ⟨by simp [up_app], Or.inr (by omega)⟩))
              | (refine hrl _ ?_; exact no_mk hn hx he hc hg (fun k hk => by (repeat rw [up_ne (by omega)])) (fun y hy => by simp [up_app, hy]) (by simp [up_app]) (Or.inr ⟨by simp [up_app], by simp [up_app], by omega, Or.inl (by omega)⟩) (Or.inr ⟨by simp [up_app], by omega, by omega⟩))
              | (refine hrl _ ?_; exact no_mk hn hx he hc hg (fun k hk => by (repeat rw [up_ne (by omega)])) (fun y hy => by simp [up_app, hy]) (by simp [up_app]) (Or.inr ⟨by simp [up_app], by simp [up_app], by omega, Or.inr ⟨by omega, by omega⟩⟩) (Or.inl ⟨by simp [up_app], Or.inl (by omega)⟩))
              | (refine hrl _ ?_; exact no_mk hn hx he hc hg (fun k hk => by (repeat rw [up_ne (by omega)])) (fun y hy => by simp [up_app, hy]) (by simp [up_app]) (Or.inr ⟨by simp [up_app], by simp [up_app], by omega, Or.inr ⟨by omega, by omega⟩⟩) (Or.inl ⟨by simp [up_app], Or.inr (by omega)⟩))
              | (refine hrl _ ?_; exact no_mk hn hx he hc hg (fun k hk => by (repeat rw [up_ne (by omega)])) (fun y hy => by simp [up_app, hy]) (by simp [up_app]) (Or.inr ⟨by simp [up_app], by simp [up_app], by omega, Or.inr ⟨by omega, by omega⟩⟩) (Or.inr ⟨by simp [up_app], by omega, by omega⟩))
      · refine f_aload_n hZ dX7_notes_53 rfl ?_
        refine gX7_301 hZ dX7_notes_54 (fun r54 => ?_)
        refine f_aload_n hZ dX7_notes_57 rfl ?_
        refine gX7_62 hZ dX7_notes_58 ?_
        refine f_iload_n hZ dX7_notes_61 rfl ?_
        refine f_iaload hZ dX7_notes_62 (by first | rfl | exact hC.t1 | exact hC.t2 | exact hC.t3 | exact hC.t4 | exact hC.t5) (by first | rfl | exact hC.l1 | exact hC.l2 | exact hC.l3 | exact hC.l4 | exact hC.l5) (by first | omega | (simp only [up_app, Nat.reduceEqDiff, Int.reduceEq, and_true, true_and, and_self, and_false, false_and, if_true, if_false, reduceIte]; omega)) (by first | omega | (simp only [up_app, Nat.reduceEqDiff, Int.reduceEq, and_true, true_and, and_self, and_false, false_and, if_true, if_false, reduceIte]; omega)) (fun r62 => ?_)
        refine f_ige (tgt := 83) hZ dX7_notes_63 rfl (by first | omega | (simp only [up_app, Nat.reduceEqDiff, Int.reduceEq, and_true, true_and, and_self, and_false, false_and, if_true, if_false, reduceIte]; omega)) (by first | omega | (simp only [up_app, Nat.reduceEqDiff, Int.reduceEq, and_true, true_and, and_self, and_false, false_and, if_true, if_false, reduceIte]; omega)) (fun h63 => ?_) (fun h63 => ?_)
        · refine f_aload_n hZ dX7_notes_83 rfl ?_
          refine gX7_53 hZ dX7_notes_84 ?_
          refine f_iload_n hZ dX7_notes_87 rfl ?_
          refine f_iaload hZ dX7_notes_88 (by first | rfl | exact hC.t1 | exact hC.t2 | exact hC.t3 | exact hC.t4 | exact hC.t5) (by first | rfl | exact hC.l1 | exact hC.l2 | exact hC.l3 | exact hC.l4 | exact hC.l5) (by first | omega | (simp only [up_app, Nat.reduceEqDiff, Int.reduceEq, and_true, true_and, and_self, and_false, false_and, if_true, if_false, reduceIte]; omega)) (by first | omega | (simp only [up_app, Nat.reduceEqDiff, Int.reduceEq, and_true, true_and, and_self, and_false, false_and, if_true, if_false, reduceIte]; omega)) (fun r88 => ?_)
          refine f_eq (tgt := 103) hZ dX7_notes_89 rfl (by first | omega | (simp only [up_app, Nat.reduceEqDiff, Int.reduceEq, and_true, true_and, and_self, and_false, false_and, if_true, if_false, reduceIte]; omega)) (fun h89 => ?_) (fun h89 => ?_)
          · refine f_aload_n hZ dX7_notes_103 rfl ?_
            refine gX7_59 hZ dX7_notes_104 ?_
            refine f_iload_n hZ dX7_notes_107 rfl ?_
            refine f_iload hZ dX7_notes_108 rfl ?_
            refine f_iastore hZ dX7_notes_110 (by first | rfl | exact hC.t1 | exact hC.t2 | exact hC.t3 | exact hC.t4 | exact hC.t5) (by first | rfl | exact hC.l1 | exact hC.l2 | exact hC.l3 | exact hC.l4 | exact hC.l5) (by first | omega | (simp only [up_app, Nat.reduceEqDiff, Int.reduceEq, and_true, true_and, and_self, and_false, false_and, if_true, if_false, reduceIte]; omega)) (by first | omega | (simp only [up_app, Nat.reduceEqDiff, Int.reduceEq, and_true, true_and, and_self, and_false, false_and, if_true, if_false, reduceIte]; omega)) (by first | omega | (simp only [up_app, Nat.reduceEqDiff, Int.reduceEq, and_true, true_and, and_self, and_false, false_and, if_true, if_false, reduceIte]; omega)) ?_
            refine f_aload_n hZ dX7_notes_111 rfl ?_
            refine gX7_53 hZ dX7_notes_112 ?_
            refine f_iload_n hZ dX7_notes_115 rfl ?_
            refine f_iconst hZ dX7_notes_116 ?_
            refine f_iastore hZ dX7_notes_117 (by first | rfl | exact hC.t1 | exact hC.t2 | exact hC.t3 | exact hC.t4 | exact hC.t5) (by first | rfl | exact hC.l1 | exact hC.l2 | exact hC.l3 | exact hC.l4 | exact hC.l5) (by first | omega | (simp only [up_app, Nat.reduceEqDiff, Int.reduceEq, and_true, true_and, and_self, and_false, false_and, if_true, if_false, reduceIte]; omega)) (by first | omega | (simp only [up_app, Nat.reduceEqDiff, Int.reduceEq, and_true, true_and, and_self, and_false, false_and, if_true, if_false, reduceIte]; omega)) (by first | omega | (simp only [up_app, Nat.reduceEqDiff, Int.reduceEq, and_true, true_and, and_self, and_false, false_and, if_true, if_false, reduceIte]; omega)) ?_
            refine f_iconst hZ dX7_notes_118 ?_
            refine f_istore (L' := [_, _, _, _, _, _]) hZ dX7_notes_119 rfl rfl ?_
            first
              | (exfalso; omega)
              | (refine hrl _ ?_; exact no_mk hn hx he hc hg (fun k hk => by (repeat rw [up_ne (by omega)])) (fun y hy => by simp [up_app, hy]) (by simp [up_app]) (Or.inl ⟨by simp [up_app], by simp [up_app], Or.inl (by omega)⟩) (Or.inl ⟨by simp [up_app], Or.inl (by omega)⟩))
              | (refine hrl _ ?_; exact no_mk hn hx he hc hg (fun k hk => by (repeat rw [up_ne (by omega)])) (fun y hy => by simp [up_app, hy]) (by simp [up_app]) (Or.inl ⟨by simp [up_app], by simp [up_app], Or.inl (by omega)⟩) (Or.inl ⟨by simp [up_app], Or.inr (by omega)⟩))
              | (refine hrl _ ?_; exact no_mk hn hx he hc hg (fun k hk => by (repeat rw [up_ne (by omega)])) (fun y hy => by simp [up_app, hy]) (by simp [up_app]) (Or.inl ⟨by simp [up_app], by simp [up_app], Or.inl (by omega)⟩) (Or.inr ⟨by simp [up_app], by omega, by omega⟩))
              | (refine hrl _ ?_; exact no_mk hn hx he hc hg (fun k hk => by (repeat rw [up_ne (by omega)])) (fun y hy => by simp [up_app, hy]) (by simp [up_app]) (Or.inl ⟨by simp [up_app], by simp [up_app], Or.inr (Or.inl (by omega))⟩) (Or.inl ⟨by simp [up_app], Or.inl (by omega)⟩))
              | (refine hrl _ ?_; exact no_mk hn hx he hc hg (fun k hk => by (repeat rw [up_ne (by omega)])) (fun y hy => by simp [up_app, hy]) (by simp [up_app]) (Or.inl ⟨by simp [up_app], by simp [up_app], Or.inr (Or.inl (by omega))⟩) (Or.inl ⟨by simp [up_app], Or.inr (by omega)⟩))
              | (refine hrl _ ?_; exact no_mk hn hx he hc hg (fun k hk => by (repeat rw [up_ne (by omega)])) (fun y hy => by simp [up_app, hy]) (by simp [up_app]) (Or.inl ⟨by simp [up_app], by simp [up_app], Or.inr (Or.inl (by omega))⟩) (Or.inr ⟨by simp [up_app], by omega, by omega⟩))
              | (refine hrl _ ?_; exact no_mk hn hx he hc hg (fun k hk => by (repeat rw [up_ne (by omega)])) (fun y hy => by simp [up_app, hy]) (by simp [up_app]) (Or.inl ⟨by simp [up_app], by simp [up_app], Or.inr (Or.inr ⟨by omega, by omega⟩)⟩) (Or.inl ⟨by simp [up_app], Or.inl (by omega)⟩))
              | (refine hrl _ ?_; exact no_mk hn hx he hc hg (fun k hk => by (repeat rw [up_ne (by omega)])) (fun y hy => by simp [up_app, hy]) (by simp [up_app]) (Or.inl ⟨by simp [up_app], by simp [up_app], Or.inr (Or.inr ⟨by omega, by omega⟩)⟩) (Or.inl ⟨by simp [up_app], Or.inr (by omega)⟩))
              | (refine hrl _ ?_; exact no_mk hn hx he hc hg (fun k hk => by (repeat rw [up_ne (by omega)])) (fun y hy => by simp [up_app, hy]) (by simp [up_app]) (Or.inl ⟨by simp [up_app], by simp [up_app], Or.inr (Or.inr ⟨by omega, by omega⟩)⟩) (Or.inr ⟨by simp [up_app], by omega, by omega⟩))
              | (refine hrl _ ?_; exact no_mk hn hx he hc hg (fun k hk => by (repeat rw [up_ne (by omega)])) (fun y hy => by simp [up_app, hy]) (by simp [up_app]) (Or.inr ⟨by simp [up_app], by simp [up_app], by omega, Or.inl (by omega)⟩) (Or.inl ⟨by simp [up_app], Or.inl (by omega)⟩))
              | (refine hrl _ ?_; exact no_mk hn hx he hc hg (fun k hk => by (repeat rw [up_ne (by omega)])) (fun y hy => by simp [up_app, hy]) (by simp [up_app]) (Or.inr ⟨by simp [up_app], by simp [up_app], by omega, Or.inl (by omega)⟩) (Or.inl ⟨by simp [up_app], Or.inr (by omega)⟩))
              | (refine hrl _ ?_; exact no_mk hn hx he hc hg (fun k hk => by (repeat rw [up_ne (by omega)])) (fun y hy => by simp [up_app, hy]) (by simp [up_app]) (Or.inr ⟨by simp [up_app], by simp [up_app], by omega, Or.inl (by omega)⟩) (Or.inr ⟨by simp [up_app], by omega, by omega⟩))
              | (refine hrl _ ?_; exact no_mk hn hx he hc hg (fun k hk => by (repeat rw [up_ne (by omega)])) (fun y hy => by simp [up_app, hy]) (by simp [up_app]) (Or.inr ⟨by simp [up_app], by simp [up_app], by omega, Or.inr ⟨by omega, by omega⟩⟩) (Or.inl ⟨by simp [up_app], Or.inl (by omega)⟩))
              | (refine hrl _ ?_; exact no_mk hn hx he hc hg (fun k hk => by (repeat rw [up_ne (by omega)])) (fun y hy => by simp [up_app, hy]) (by simp [up_app]) (Or.inr ⟨by simp [up_app], by simp [up_app], by omega, Or.inr ⟨by omega, by omega⟩⟩) (Or.inl ⟨by simp [up_app], Or.inr (by omega)⟩))
              | (refine hrl _ ?_; exact no_mk hn hx he hc hg (fun k hk => by (repeat rw [up_ne (by omega)])) (fun y hy => by simp [up_app, hy]) (by simp [up_app]) (Or.inr ⟨by simp [up_app], by simp [up_app], by omega, Or.inr ⟨by omega, by omega⟩⟩) (Or.inr ⟨by simp [up_app], by omega, by omega⟩))
          · refine f_iload hZ dX7_notes_92 rfl ?_
            refine f_aload_n hZ dX7_notes_94 rfl ?_
            refine gX7_59 hZ dX7_notes_95 ?_
            refine f_iload_n hZ dX7_notes_98 rfl ?_
            refine f_iaload hZ dX7_notes_99 (by first | rfl | exact hC.t1 | exact hC.t2 | exact hC.t3 | exact hC.t4 | exact hC.t5) (by first | rfl | exact hC.l1 | exact hC.l2 | exact hC.l3 | exact hC.l4 | exact hC.l5) (by first | omega | (simp only [up_app, Nat.reduceEqDiff, Int.reduceEq, and_true, true_and, and_self, and_false, false_and, if_true, if_false, reduceIte]; omega)) (by first | omega | (simp only [up_app, Nat.reduceEqDiff, Int.reduceEq, and_true, true_and, and_self, and_false, false_and, if_true, if_false, reduceIte]; omega)) (fun r99 => ?_)
            refine f_ige (tgt := 111) hZ dX7_notes_100 rfl (by first | omega | (simp only [up_app, Nat.reduceEqDiff, Int.reduceEq, and_true, true_and, and_self, and_false, false_and, if_true, if_false, reduceIte]; omega)) (by first | omega | (simp only [up_app, Nat.reduceEqDiff, Int.reduceEq, and_true, true_and, and_self, and_false, false_and, if_true, if_false, reduceIte]; omega)) (fun h100 => ?_) (fun h100 => ?_)
            · refine f_aload_n hZ dX7_notes_111 rfl ?_
              refine gX7_53 hZ dX7_notes_112 ?_
              refine f_iload_n hZ dX7_notes_115 rfl ?_
              refine f_iconst hZ dX7_notes_116 ?_
              refine f_iastore hZ dX7_notes_117 (by first | rfl | exact hC.t1 | exact hC.t2 | exact hC.t3 | exact hC.t4 | exact hC.t5) (by first | rfl | exact hC.l1 | exact hC.l2 | exact hC.l3 | exact hC.l4 | exact hC.l5) (by first | omega | (simp only [up_app, Nat.reduceEqDiff, Int.reduceEq, and_true, true_and, and_self, and_false, false_and, if_true, if_false, reduceIte]; omega)) (by first | omega | (simp only [up_app, Nat.reduceEqDiff, Int.reduceEq, and_true, true_and, and_self, and_false, false_and, if_true, if_false, reduceIte]; omega)) (by first | omega | (simp only [up_app, Nat.reduceEqDiff, Int.reduceEq, and_true, true_and, and_self, and_false, false_and, if_true, if_false, reduceIte]; omega)) ?_
              refine f_iconst hZ dX7_notes_118 ?_
              refine f_istore (L' := [_, _, _, _, _, _]) hZ dX7_notes_119 rfl rfl ?_
              first
                | (exfalso; omega)
                | (refine hrl _ ?_; exact no_mk hn hx he hc hg (fun k hk => by (repeat rw [up_ne (by omega)])) (fun y hy => by simp [up_app, hy]) (by simp [up_app]) (Or.inl ⟨by simp [up_app], by simp [up_app], Or.inl (by omega)⟩) (Or.inl ⟨by simp [up_app], Or.inl (by omega)⟩))
                | (refine hrl _ ?_; exact no_mk hn hx he hc hg (fun k hk => by (repeat rw [up_ne (by omega)])) (fun y hy => by simp [up_app, hy]) (by simp [up_app]) (Or.inl ⟨by simp [up_app], by simp [up_app], Or.inl (by omega)⟩) (Or.inl ⟨by simp [up_app], Or.inr (by omega)⟩))
                | (refine hrl _ ?_; exact no_mk hn hx he hc hg (fun k hk => by (repeat rw [up_ne (by omega)])) (fun y hy => by simp [up_app, hy]) (by simp [up_app]) (Or.inl ⟨by simp [up_app], by simp [up_app], Or.inl (by omega)⟩) (Or.inr ⟨by simp [up_app], by omega, by omega⟩))
                | (refine hrl _ ?_; exact no_mk hn hx he hc hg (fun k hk => by (repeat rw [up_ne (by omega)])) (fun y hy => by simp [up_app, hy]) (by simp [up_app]) (Or.inl ⟨by simp [up_app], by simp [up_app], Or.inr (Or.inl (by omega))⟩) (Or.inl ⟨by simp [up_app], Or.inl (by omega)⟩))
                | (refine hrl _ ?_; exact no_mk hn hx he hc hg (fun k hk => by (repeat rw [up_ne (by omega)])) (fun y hy => by simp [up_app, hy]) (by simp [up_app]) (Or.inl ⟨by simp [up_app], by simp [up_app], Or.inr (Or.inl (by omega))⟩) (Or.inl ⟨by simp [up_app], Or.inr (by omega)⟩))
                | (refine hrl _ ?_; exact no_mk hn hx he hc hg (fun k hk => by (repeat rw [up_ne (by omega)])) (fun y hy => by simp [up_app, hy]) (by simp [up_app]) (Or.inl ⟨by simp [up_app], by simp [up_app], Or.inr (Or.inl (by omega))⟩) (Or.inr ⟨by simp [up_app], by omega, by omega⟩))
                | (refine hrl _ ?_; exact no_mk hn hx he hc hg (fun k hk => by (repeat rw [up_ne (by omega)])) (fun y hy => by simp [up_app, hy]) (by simp [up_app]) (Or.inl ⟨by simp [up_app], by simp [up_app], Or.inr (Or.inr ⟨by omega, by omega⟩)⟩) (Or.inl ⟨by simp [up_app], Or.inl (by omega)⟩))
                | (refine hrl _ ?_; exact no_mk hn hx he hc hg (fun k hk => by (repeat rw [up_ne (by omega)])) (fun y hy => by simp [up_app, hy]) (by simp [up_app]) (Or.inl ⟨by simp [up_app], by simp [up_app], Or.inr (Or.inr ⟨by omega, by omega⟩)⟩) (Or.inl ⟨by simp [up_app], Or.inr (by omega)⟩))
                | (refine hrl _ ?_; exact no_mk hn hx he hc hg (fun k hk => by (repeat rw [up_ne (by omega)])) (fun y hy => by simp [up_app, hy]) (by simp [up_app]) (Or.inl ⟨by simp [up_app], by simp [up_app], Or.inr (Or.inr ⟨by omega, by omega⟩)⟩) (Or.inr ⟨by simp [up_app], by omega, by omega⟩))
                | (refine hrl _ ?_; exact no_mk hn hx he hc hg (fun k hk => by (repeat rw [up_ne (by omega)])) (fun y hy => by simp [up_app, hy]) (by simp [up_app]) (Or.inr ⟨by simp [up_app], by simp [up_app], by omega, Or.inl (by omega)⟩) (Or.inl ⟨by simp [up_app], Or.inl (by omega)⟩))
                | (refine hrl _ ?_; exact no_mk hn hx he hc hg (fun k hk => by (repeat rw [up_ne (by omega)])) (fun y hy => by simp [up_app, hy]) (by simp [up_app]) (Or.inr ⟨by simp [up_app], by simp [up_app], by omega, Or.inl (by omega)⟩) (Or.inl ⟨by simp [up_app], Or.inr (by omega)⟩))
                | (refine hrl _ ?_; exact no_mk hn hx he hc hg (fun k hk => by (repeat rw [up_ne (by omega)])) (fun y hy => by simp [up_app, hy]) (by simp [up_app]) (Or.inr ⟨by simp [up_app], by simp [up_app], by omega, Or.inl (by omega)⟩) (Or.inr ⟨by simp [up_app], by omega, by omega⟩))
                | (refine hrl _ ?_; exact no_mk hn hx he hc hg (fun k hk => by (repeat rw [up_ne (by omega)])) (fun y hy => by simp [up_app, hy]) (by simp [up_app]) (Or.inr ⟨by simp [up_app], by simp [up_app], by omega, Or.inr ⟨by omega, by omega⟩⟩) (Or.inl ⟨by simp [up_app], Or.inl (by omega)⟩))
                | (refine hrl _ ?_; exact no_mk hn hx he hc hg (fun k hk => by (repeat rw [up_ne (by omega)])) (fun y hy => by simp [up_app, hy]) (by simp [up_app]) (Or.inr ⟨by simp [up_app], by simp [up_app], by omega, Or.inr ⟨by omega, by omega⟩⟩) (Or.inl ⟨by simp [up_app], Or.inr (by omega)⟩))
                | (refine hrl _ ?_; exact no_mk hn hx he hc hg (fun k hk => by (repeat rw [up_ne (by omega)])) (fun y hy => by simp [up_app, hy]) (by simp [up_app]) (Or.inr ⟨by simp [up_app], by simp [up_app], by omega, Or.inr ⟨by omega, by omega⟩⟩) (Or.inr ⟨by simp [up_app], by omega, by omega⟩))
            · refine f_aload_n hZ dX7_notes_103 rfl ?_
              refine gX7_59 hZ dX7_notes_104 ?_
              refine f_iload_n hZ dX7_notes_107 rfl ?_
              refine f_iload hZ dX7_notes_108 rfl ?_
              refine f_iastore hZ dX7_notes_110 (by first | rfl | exact hC.t1 | exact hC.t2 | exact hC.t3 | exact hC.t4 | exact hC.t5) (by first | rfl | exact hC.l1 | exact hC.l2 | exact hC.l3 | exact hC.l4 | exact hC.l5) (by first | omega | (simp only [up_app, Nat.reduceEqDiff, Int.reduceEq, and_true, true_and, and_self, and_false, false_and, if_true, if_false, reduceIte]; omega)) (by first | omega | (simp only [up_app, Nat.reduceEqDiff, Int.reduceEq, and_true, true_and, and_self, and_false, false_and, if_true, if_false, reduceIte]; omega)) (by first | omega | (simp only [up_app, Nat.reduceEqDiff, Int.reduceEq, and_true, true_and, and_self, and_false, false_and, if_true, if_false, reduceIte]; omega)) ?_
              refine f_aload_n hZ dX7_notes_111 rfl ?_
              refine gX7_53 hZ dX7_notes_112 ?_
              refine f_iload_n hZ dX7_notes_115 rfl ?_
              refine f_iconst hZ dX7_notes_116 ?_
              refine f_iastore hZ dX7_notes_117 (by first | rfl | exact hC.t1 | exact hC.t2 | exact hC.t3 | exact hC.t4 | exact hC.t5) (by first | rfl | exact hC.l1 | exact hC.l2 | exact hC.l3 | exact hC.l4 | exact hC.l5) (by first | omega | (simp only [up_app, Nat.reduceEqDiff, Int.reduceEq, and_true, true_and, and_self, and_false, false_and, if_true, if_false, reduceIte]; omega)) (by first | omega | (simp only [up_app, Nat.reduceEqDiff, Int.reduceEq, and_true, true_and, and_self, and_false, false_and, if_true, if_false, reduceIte]; omega)) (by first | omega | (simp only [up_app, Nat.reduceEqDiff, Int.reduceEq, and_true, true_and, and_self, and_false, false_and, if_true, if_false, reduceIte]; omega)) ?_
              refine f_iconst hZ dX7_notes_118 ?_
              refine f_istore (L' := [_, _, _, _, _, _]) hZ dX7_notes_119 rfl rfl ?_
              first
                | (exfalso; omega)
                | (refine hrl _ ?_; exact no_mk hn hx he hc hg (fun k hk => by (repeat rw [up_ne (by omega)])) (fun y hy => by simp [up_app, hy]) (by simp [up_app]) (Or.inl ⟨by simp [up_app], by simp [up_app], Or.inl (by omega)⟩) (Or.inl ⟨by simp [up_app], Or.inl (by omega)⟩))
                | (refine hrl _ ?_; exact no_mk hn hx he hc hg (fun k hk => by (repeat rw [up_ne (by omega)])) (fun y hy => by simp [up_app, hy]) (by simp [up_app]) (Or.inl ⟨by simp [up_app], by simp [up_app], Or.inl (by omega)⟩) (Or.inl ⟨by simp [up_app], Or.inr (by omega)⟩))
                | (refine hrl _ ?_; exact no_mk hn hx he hc hg (fun k hk => by (repeat rw [up_ne (by omega)])) (fun y hy => by simp [up_app, hy]) (by simp [up_app]) (Or.inl ⟨by simp [up_app], by simp [up_app], Or.inl (by omega)⟩) (Or.inr ⟨by simp [up_app], by omega, by omega⟩))
                | (refine hrl _ ?_; exact no_mk hn hx he hc hg (fun k hk => by (repeat rw [up_ne (by omega)])) (fun y hy => by simp [up_app, hy]) (by simp [up_app]) (Or.inl ⟨by simp [up_app], by simp [up_app], Or.inr (Or.inl (by omega))⟩) (Or.inl ⟨by simp [up_app], Or.inl (by omega)⟩))
                | (refine hrl _ ?_; exact no_mk hn hx he hc hg (fun k hk => by (repeat rw [up_ne (by omega)])) (fun y hy => by simp [up_app, hy]) (by simp [up_app]) (Or.inl ⟨by simp [up_app], by simp [up_app], Or.inr (Or.inl (by omega))⟩) (Or.inl ⟨by simp [up_app], Or.inr (by omega)⟩))
                | (refine hrl _ ?_; exact no_mk hn hx he hc hg (fun k hk => by (repeat rw [up_ne (by omega)])) (fun y hy => by simp [up_app, hy]) (by simp [up_app]) (Or.inl ⟨by simp [up_app], by simp [up_app], Or.inr (Or.inl (by omega))⟩) (Or.inr ⟨by simp [up_app], by omega, by omega⟩))
                | (refine hrl _ ?_; exact no_mk hn hx he hc hg (fun k hk => by (repeat rw [up_ne (by omega)])) (fun y hy => by simp [up_app, hy]) (by simp [up_app]) (Or.inl ⟨by simp [up_app], by simp [up_app], Or.inr (Or.inr ⟨by omega, by omega⟩)⟩) (Or.inl ⟨by simp [up_app], Or.inl (by omega)⟩))
                | (refine hrl _ ?_; exact no_mk hn hx he hc hg (fun k hk => by (repeat rw [up_ne (by omega)])) (fun y hy => by simp [up_app, hy]) (by simp [up_app]) (Or.inl ⟨by simp [up_app], by simp [up_app], Or.inr (Or.inr ⟨by omega, by omega⟩)⟩) (Or.inl ⟨by simp [up_app], Or.inr (by omega)⟩))
                | (refine hrl _ ?_; exact no_mk hn hx he hc hg (fun k hk => by (repeat rw [up_ne (by omega)])) (fun y hy => by simp [up_app, hy]) (by simp [up_app]) (Or.inl ⟨by simp [up_app], by simp [up_app], Or.inr (Or.inr ⟨by omega, by omega⟩)⟩) (Or.inr ⟨by simp [up_app], by omega, by omega⟩))
                | (refine hrl _ ?_; exact no_mk hn hx he hc hg (fun k hk => by (repeat rw [up_ne (by omega)])) (fun y hy => by simp [up_app, hy]) (by simp [up_app]) (Or.inr ⟨by simp [up_app], by simp [up_app], by omega, Or.inl (by omega)⟩) (Or.inl ⟨by simp [up_app], Or.inl (by omega)⟩))
                | (refine hrl _ ?_; exact no_mk hn hx he hc hg (fun k hk => by (repeat rw [up_ne (by omega)])) (fun y hy => by simp [up_app, hy]) (by simp [up_app]) (Or.inr ⟨by simp [up_app], by simp [up_app], by omega, Or.inl (by omega)⟩) (Or.inl ⟨by simp [up_app], Or.inr (by omega)⟩))
                | (refine hrl _ ?_; exact no_mk hn hx he hc hg (fun k hk => by (repeat rw [up_ne (by omega)])) (fun y hy => by simp [up_app, hy]) (by simp [up_app]) (Or.inr ⟨by simp [up_app], by simp [up_app], by omega, Or.inl (by omega)⟩) (Or.inr ⟨by simp [up_app], by omega, by omega⟩))
                | (refine hrl _ ?_; exact no_mk hn hx he hc hg (fun k hk => by (repeat rw [up_ne (by omega)])) (fun y hy => by simp [up_app, hy]) (by simp [up_app]) (Or.inr ⟨by simp [up_app], by simp [up_app], by omega, Or.inr ⟨by omega, by omega⟩⟩) (Or.inl ⟨by simp [up_app], Or.inl (by omega)⟩))
                | (refine hrl _ ?_; exact no_mk hn hx he hc hg (fun k hk => by (repeat rw [up_ne (by omega)])) (fun y hy => by simp [up_app, hy]) (by simp [up_app]) (Or.inr ⟨by simp [up_app], by simp [up_app], by omega, Or.inr ⟨by omega, by omega⟩⟩) (Or.inl ⟨by simp [up_app], Or.inr (by omega)⟩))
                | (refine hrl _ ?_; exact no_mk hn hx he hc hg (fun k hk => by (repeat rw [up_ne (by omega)])) (fun y hy => by simp [up_app, hy]) (by simp [up_app]) (Or.inr ⟨by simp [up_app], by simp [up_app], by omega, Or.inr ⟨by omega, by omega⟩⟩) (Or.inr ⟨by simp [up_app], by omega, by omega⟩))
        · refine f_aload_n hZ dX7_notes_66 rfl ?_
          refine gX7_56 hZ dX7_notes_67 ?_
          refine f_iload_n hZ dX7_notes_70 rfl ?_
          refine f_iload_n hZ dX7_notes_71 rfl ?_
          refine f_iastore hZ dX7_notes_72 (by first | rfl | exact hC.t1 | exact hC.t2 | exact hC.t3 | exact hC.t4 | exact hC.t5) (by first | rfl | exact hC.l1 | exact hC.l2 | exact hC.l3 | exact hC.l4 | exact hC.l5) (by first | omega | (simp only [up_app, Nat.reduceEqDiff, Int.reduceEq, and_true, true_and, and_self, and_false, false_and, if_true, if_false, reduceIte]; omega)) (by first | omega | (simp only [up_app, Nat.reduceEqDiff, Int.reduceEq, and_true, true_and, and_self, and_false, false_and, if_true, if_false, reduceIte]; omega)) (by first | omega | (simp only [up_app, Nat.reduceEqDiff, Int.reduceEq, and_true, true_and, and_self, and_false, false_and, if_true, if_false, reduceIte]; omega)) ?_
          refine f_aload_n hZ dX7_notes_73 rfl ?_
          refine gX7_62 hZ dX7_notes_74 ?_
          refine f_iload_n hZ dX7_notes_77 rfl ?_
          refine f_aload_n hZ dX7_notes_78 rfl ?_
          refine gX7_301 hZ dX7_notes_79 (fun r79 => ?_)
          try simp only [up_app, Nat.reduceEqDiff, Int.reduceEq, and_true, true_and, and_self, and_false, false_and, if_true, if_false, reduceIte] at r79 ⊢
          refine f_iastore hZ dX7_notes_82 (by first | rfl | exact hC.t1 | exact hC.t2 | exact hC.t3 | exact hC.t4 | exact hC.t5) (by first | rfl | exact hC.l1 | exact hC.l2 | exact hC.l3 | exact hC.l4 | exact hC.l5) (by first | omega | (simp only [up_app, Nat.reduceEqDiff, Int.reduceEq, and_true, true_and, and_self, and_false, false_and, if_true, if_false, reduceIte]; omega)) (by first | omega | (simp only [up_app, Nat.reduceEqDiff, Int.reduceEq, and_true, true_and, and_self, and_false, false_and, if_true, if_false, reduceIte]; omega)) (by first | omega | (simp only [up_app, Nat.reduceEqDiff, Int.reduceEq, and_true, true_and, and_self, and_false, false_and, if_true, if_false, reduceIte]; omega)) ?_
          refine f_aload_n hZ dX7_notes_83 rfl ?_
          refine gX7_53 hZ dX7_notes_84 ?_
          refine f_iload_n hZ dX7_notes_87 rfl ?_
          refine f_iaload hZ dX7_notes_88 (by first | rfl | exact hC.t1 | exact hC.t2 | exact hC.t3 | exact hC.t4 | exact hC.t5) (by first | rfl | exact hC.l1 | exact hC.l2 | exact hC.l3 | exact hC.l4 | exact hC.l5) (by first | omega | (simp only [up_app, Nat.reduceEqDiff, Int.reduceEq, and_true, true_and, and_self, and_false, false_and, if_true, if_false, reduceIte]; omega)) (by first | omega | (simp only [up_app, Nat.reduceEqDiff, Int.reduceEq, and_true, true_and, and_self, and_false, false_and, if_true, if_false, reduceIte]; omega)) (fun r88 => ?_)
          try simp only [up_app, Nat.reduceEqDiff, Int.reduceEq, and_true, true_and, and_self, and_false, false_and, if_true, if_false, reduceIte] at r88 ⊢
          refine f_eq (tgt := 103) hZ dX7_notes_89 rfl (by first | omega | (simp only [up_app, Nat.reduceEqDiff, Int.reduceEq, and_true, true_and, and_self, and_false, false_and, if_true, if_false, reduceIte]; omega)) (fun h89 => ?_) (fun h89 => ?_)
          · refine f_aload_n hZ dX7_notes_103 rfl ?_
            refine gX7_59 hZ dX7_notes_104 ?_
            refine f_iload_n hZ dX7_notes_107 rfl ?_
            refine f_iload hZ dX7_notes_108 rfl ?_
            refine f_iastore hZ dX7_notes_110 (by first | rfl | exact hC.t1 | exact hC.t2 | exact hC.t3 | exact hC.t4 | exact hC.t5) (by first | rfl | exact hC.l1 | exact hC.l2 | exact hC.l3 | exact hC.l4 | exact hC.l5) (by first | omega | (simp only [up_app, Nat.reduceEqDiff, Int.reduceEq, and_true, true_and, and_self, and_false, false_and, if_true, if_false, reduceIte]; omega)) (by first | omega | (simp only [up_app, Nat.reduceEqDiff, Int.reduceEq, and_true, true_and, and_self, and_false, false_and, if_true, if_false, reduceIte]; omega)) (by first | omega | (simp only [up_app, Nat.reduceEqDiff, Int.reduceEq, and_true, true_and, and_self, and_false, false_and, if_true, if_false, reduceIte]; omega)) ?_
            refine f_aload_n hZ dX7_notes_111 rfl ?_
            refine gX7_53 hZ dX7_notes_112 ?_
            refine f_iload_n hZ dX7_notes_115 rfl ?_
            refine f_iconst hZ dX7_notes_116 ?_
            refine f_iastore hZ dX7_notes_117 (by first | rfl | exact hC.t1 | exact hC.t2 | exact hC.t3 | exact hC.t4 | exact hC.t5) (by first | rfl | exact hC.l1 | exact hC.l2 | exact hC.l3 | exact hC.l4 | exact hC.l5) (by first | omega | (simp only [up_app, Nat.reduceEqDiff, Int.reduceEq, and_true, true_and, and_self, and_false, false_and, if_true, if_false, reduceIte]; omega)) (by first | omega | (simp only [up_app, Nat.reduceEqDiff, Int.reduceEq, and_true, true_and, and_self, and_false, false_and, if_true, if_false, reduceIte]; omega)) (by first | omega | (simp only [up_app, Nat.reduceEqDiff, Int.reduceEq, and_true, true_and, and_self, and_false, false_and, if_true, if_false, reduceIte]; omega)) ?_
            refine f_iconst hZ dX7_notes_118 ?_
            refine f_istore (L' := [_, _, _, _, _, _]) hZ dX7_notes_119 rfl rfl ?_
            first
              | (exfalso; omega)
              | (refine hrl _ ?_; exact no_mk hn hx he hc hg (fun k hk => by (repeat rw [up_ne (by omega)])) (fun y hy => by simp [up_app, hy]) (by simp [up_app]) (Or.inl ⟨by simp [up_app], by simp [up_app], Or.inl (by omega)⟩) (Or.inl ⟨by simp [up_app], Or.inl (by omega)⟩))
              | (refine hrl _ ?_; exact no_mk hn hx he hc hg (fun k hk => by (repeat rw [up_ne (by omega)])) (fun y hy => by simp [up_app, hy]) (by simp [up_app]) (Or.inl ⟨by simp [up_app], by simp [up_app], Or.inl (by omega)⟩) (Or.inl ⟨by simp [up_app], Or.inr (by omega)⟩))
              | (refine hrl _ ?_; exact no_mk hn hx he hc hg (fun k hk => by (repeat rw [up_ne (by omega)])) (fun y hy => by simp [up_app, hy]) (by simp [up_app]) (Or.inl ⟨by simp [up_app], by simp [up_app], Or.inl (by omega)⟩) (Or.inr ⟨by simp [up_app], by omega, by omega⟩))
              | (refine hrl _ ?_; exact no_mk hn hx he hc hg (fun k hk => by (repeat rw [up_ne (by omega)])) (fun y hy => by simp [up_app, hy]) (by simp [up_app]) (Or.inl ⟨by simp [up_app], by simp [up_app], Or.inr (Or.inl (by omega))⟩) (Or.inl ⟨by simp [up_app], Or.inl (by omega)⟩))
              | (refine hrl _ ?_; exact no_mk hn hx he hc hg (fun k hk => by (repeat rw [up_ne (by omega)])) (fun y hy => by simp [up_app, hy]) (by simp [up_app]) (Or.inl ⟨by simp [up_app], by simp [up_app], Or.inr (Or.inl (by omega))⟩) (Or.inl ⟨by simp [up_app], Or.inr (by omega)⟩))
              | (refine hrl _ ?_; exact no_mk hn hx he hc hg (fun k hk => by (repeat rw [up_ne (by omega)])) (fun y hy => by simp [up_app, hy]) (by simp [up_app]) (Or.inl ⟨by simp [up_app], by simp [up_app], Or.inr (Or.inl (by omega))⟩) (Or.inr ⟨by simp [up_app], by omega, by omega⟩))
              | (refine hrl _ ?_; exact no_mk hn hx he hc hg (fun k hk => by (repeat rw [up_ne (by omega)])) (fun y hy => by simp [up_app, hy]) (by simp [up_app]) (Or.inl ⟨by simp [up_app], by simp [up_app], Or.inr (Or.inr ⟨by omega, by omega⟩)⟩) (Or.inl ⟨by simp [up_app], Or.inl (by omega)⟩))
              | (refine hrl _ ?_; exact no_mk hn hx he hc hg (fun k hk => by (repeat rw [up_ne (by omega)])) (fun y hy => by simp [up_app, hy]) (by simp [up_app]) (Or.inl ⟨by simp [up_app], by simp [up_app], Or.inr (Or.inr ⟨by omega, by omega⟩)⟩) (Or.inl ⟨by simp [up_app], Or.inr (by omega)⟩))
              | (refine hrl _ ?_; exact no_mk hn hx he hc hg (fun k hk => by (repeat rw [up_ne (by omega)])) (fun y hy => by simp [up_app, hy]) (by simp [up_app]) (Or.inl ⟨by simp [up_app], by simp [up_app], Or.inr (Or.inr ⟨by omega, by omega⟩)⟩) (Or.inr ⟨by simp [up_app], by omega, by omega⟩))
              | (refine hrl _ ?_; exact no_mk hn hx he hc hg (fun k hk => by (repeat rw [up_ne (by omega)])) (fun y hy => by simp [up_app, hy]) (by simp [up_app]) (Or.inr ⟨by simp [up_app], by simp [up_app], by omega, Or.inl (by omega)⟩) (Or.inl ⟨by simp [up_app], Or.inl (by omega)⟩))
              | (refine hrl _ ?_; exact no_mk hn hx he hc hg (fun k hk => by (repeat rw [up_ne (by omega)])) (fun y hy => by simp [up_app, hy]) (by simp [up_app]) (Or.inr ⟨by simp [up_app], by simp [up_app], by omega, Or.inl (by omega)⟩) (Or.inl ⟨by simp [up_app], Or.inr (by omega)⟩))
              | (refine hrl _ ?_; exact no_mk hn hx he hc hg (fun k hk => by (repeat rw [up_ne (by omega)])) (fun y hy => by simp [up_app, hy]) (by simp [up_app]) (Or.inr ⟨by simp [up_app], by simp [up_app], by omega, Or.inl (by omega)⟩) (Or.inr ⟨by simp [up_app], by omega, by omega⟩))
              | (refine hrl _ ?_; exact no_mk hn hx he hc hg (fun k hk => by (repeat rw [up_ne (by omega)])) (fun y hy => by simp [up_app, hy]) (by simp [up_app]) (Or.inr ⟨by simp [up_app], by simp [up_app], by omega, Or.inr ⟨by omega, by omega⟩⟩) (Or.inl ⟨by simp [up_app], Or.inl (by omega)⟩))
              | (refine hrl _ ?_; exact no_mk hn hx he hc hg (fun k hk => by (repeat rw [up_ne (by omega)])) (fun y hy => by simp [up_app, hy]) (by simp [up_app]) (Or.inr ⟨by simp [up_app], by simp [up_app], by omega, Or.inr ⟨by omega, by omega⟩⟩) (Or.inl ⟨by simp [up_app], Or.inr (by omega)⟩))
              | (refine hrl _ ?_; exact no_mk hn hx he hc hg (fun k hk => by (repeat rw [up_ne (by omega)])) (fun y hy => by simp [up_app, hy]) (by simp [up_app]) (Or.inr ⟨by simp [up_app], by simp [up_app], by omega, Or.inr ⟨by omega, by omega⟩⟩) (Or.inr ⟨by simp [up_app], by omega, by omega⟩))
          · refine f_iload hZ dX7_notes_92 rfl ?_
            refine f_aload_n hZ dX7_notes_94 rfl ?_
            refine gX7_59 hZ dX7_notes_95 ?_
            refine f_iload_n hZ dX7_notes_98 rfl ?_
            refine f_iaload hZ dX7_notes_99 (by first | rfl | exact hC.t1 | exact hC.t2 | exact hC.t3 | exact hC.t4 | exact hC.t5) (by first | rfl | exact hC.l1 | exact hC.l2 | exact hC.l3 | exact hC.l4 | exact hC.l5) (by first | omega | (simp only [up_app, Nat.reduceEqDiff, Int.reduceEq, and_true, true_and, and_self, and_false, false_and, if_true, if_false, reduceIte]; omega)) (by first | omega | (simp only [up_app, Nat.reduceEqDiff, Int.reduceEq, and_true, true_and, and_self, and_false, false_and, if_true, if_false, reduceIte]; omega)) (fun r99 => ?_)
            try simp only [up_app, Nat.reduceEqDiff, Int.reduceEq, and_true, true_and, and_self, and_false, false_and, if_true, if_false, reduceIte] at r99 ⊢
            refine f_ige (tgt := 111) hZ dX7_notes_100 rfl (by first | omega | (simp only [up_app, Nat.reduceEqDiff, Int.reduceEq, and_true, true_and, and_self, and_false, false_and, if_true, if_false, reduceIte]; omega)) (by first | omega | (simp only [up_app, Nat.reduceEqDiff, Int.reduceEq, and_true, true_and, and_self, and_false, false_and, if_true, if_false, reduceIte]; omega)) (fun h100 => ?_) (fun h100 => ?_)
            · refine f_aload_n hZ dX7_notes_111 rfl ?_
              refine gX7_53 hZ dX7_notes_112 ?_
              refine f_iload_n hZ dX7_notes_115 rfl ?_
              refine f_iconst hZ dX7_notes_116 ?_
              refine f_iastore hZ dX7_notes_117 (by first | rfl | exact hC.t1 | exact hC.t2 | exact hC.t3 | exact hC.t4 | exact hC.t5) (by first | rfl | exact hC.l1 | exact hC.l2 | exact hC.l3 | exact hC.l4 | exact hC.l5) (by first | omega | (simp only [up_app, Nat.reduceEqDiff, Int.reduceEq, and_true, true_and, and_self, and_false, false_and, if_true, if_false, reduceIte]; omega)) (by first | omega | (simp only [up_app, Nat.reduceEqDiff, Int.reduceEq, and_true, true_and, and_self, and_false, false_and, if_true, if_false, reduceIte]; omega)) (by first | omega | (simp only [up_app, Nat.reduceEqDiff, Int.reduceEq, and_true, true_and, and_self, and_false, false_and, if_true, if_false, reduceIte]; omega)) ?_
              refine f_iconst hZ dX7_notes_118 ?_
              refine f_istore (L' := [_, _, _, _, _, _]) hZ dX7_notes_119 rfl rfl ?_
              first
                | (exfalso; omega)
                | (refine hrl _ ?_; exact no_mk hn hx he hc hg (fun k hk => by (repeat rw [up_ne (by omega)])) (fun y hy => by simp [up_app, hy]) (by simp [up_app]) (Or.inl ⟨by simp [up_app], by simp [up_app], Or.inl (by omega)⟩) (Or.inl ⟨by simp [up_app], Or.inl (by omega)⟩))
                | (refine hrl _ ?_; exact no_mk hn hx he hc hg (fun k hk => by (repeat rw [up_ne (by omega)])) (fun y hy => by simp [up_app, hy]) (by simp [up_app]) (Or.inl ⟨by simp [up_app], by simp [up_app], Or.inl (by omega)⟩) (Or.inl ⟨by simp [up_app], Or.inr (by omega)⟩))
                | (refine hrl _ ?_; exact no_mk hn hx he hc hg (fun k hk => by (repeat rw [up_ne (by omega)])) (fun y hy => by simp [up_app, hy]) (by simp [up_app]) (Or.inl ⟨by simp [up_app], by simp [up_app], Or.inl (by omega)⟩) (Or.inr ⟨by simp [up_app], by omega, by omega⟩))
                | (refine hrl _ ?_; exact no_mk hn hx he hc hg (fun k hk => by (repeat rw [up_ne (by omega)])) (fun y hy => by simp [up_app, hy]) (by simp [up_app]) (Or.inl ⟨by simp [up_app], by simp [up_app], Or.inr (Or.inl (by omega))⟩) (Or.inl ⟨by simp [up_app], Or.inl (by omega)⟩))
                | (refine hrl _ ?_; exact no_mk hn hx he hc hg (fun k hk => by (repeat rw [up_ne (by omega)])) (fun y hy => by simp [up_app, hy]) (by simp [up_app]) (Or.inl ⟨by simp [up_app], by simp [up_app], Or.inr (Or.inl (by omega))⟩) (Or.inl ⟨by simp [up_app], Or.inr (by omega)⟩))
                | (refine hrl _ ?_; exact no_mk hn hx he hc hg (fun k hk => by (repeat rw [up_ne (by omega)])) (fun y hy => by simp [up_app, hy]) (by simp [up_app]) (Or.inl ⟨by simp [up_app], by simp [up_app], Or.inr (Or.inl (by omega))⟩) (Or.inr ⟨by simp [up_app], by omega, by omega⟩))
                | (refine hrl _ ?_; exact no_mk hn hx he hc hg (fun k hk => by (repeat rw [up_ne (by omega)])) (fun y hy => by simp [up_app, hy]) (by simp [up_app]) (Or.inl ⟨by simp [up_app], by simp [up_app], Or.inr (Or.inr ⟨by omega, by omega⟩)⟩) (Or.inl ⟨by simp [up_app], Or.inl (by omega)⟩))
                | (refine hrl _ ?_; exact no_mk hn hx he hc hg (fun k hk => by (repeat rw [up_ne (by omega)])) (fun y hy => by simp [up_app, hy]) (by simp [up_app]) (Or.inl ⟨by simp [up_app], by simp [up_app], Or.inr (Or.inr ⟨by omega, by omega⟩)⟩) (Or.inl ⟨by simp [up_app], Or.inr (by omega)⟩))
                | (refine hrl _ ?_; exact no_mk hn hx he hc hg (fun k hk => by (repeat rw [up_ne (by omega)])) (fun y hy => by simp [up_app, hy]) (by simp [up_app]) (Or.inl ⟨by simp [up_app], by simp [up_app], Or.inr (Or.inr ⟨by omega, by omega⟩)⟩) (Or.inr ⟨by simp [up_app], by omega, by omega⟩))
                | (refine hrl _ ?_; exact no_mk hn hx he hc hg (fun k hk => by (repeat rw [up_ne (by omega)])) (fun y hy => by simp [up_app, hy]) (by simp [up_app]) (Or.inr ⟨by simp [up_app], by simp [up_app], by omega, Or.inl (by omega)⟩) (Or.inl ⟨by simp [up_app], Or.inl (by omega)⟩))
                | (refine hrl _ ?_; exact no_mk hn hx he hc hg (fun k hk => by (repeat rw [up_ne (by omega)])) (fun y hy => by simp [up_app, hy]) (by simp [up_app]) (Or.inr ⟨by simp [up_app], by simp [up_app], by omega, Or.inl (by omega)⟩) (Or.inl ⟨by simp [up_app], Or.inr (by omega)⟩))
                | (refine hrl _ ?_; exact no_mk hn hx he hc hg (fun k hk => by (repeat rw [up_ne (by omega)])) (fun y hy => by simp [up_app, hy]) (by simp [up_app]) (Or.inr ⟨by simp [up_app], by simp [up_app], by omega, Or.inl (by omega)⟩) (Or.inr ⟨by simp [up_app], by omega, by omega⟩))
                | (refine hrl _ ?_; exact no_mk hn hx he hc hg (fun k hk => by (repeat rw [up_ne (by omega)])) (fun y hy => by simp [up_app, hy]) (by simp [up_app]) (Or.inr ⟨by simp [up_app], by simp [up_app], by omega, Or.inr ⟨by omega, by omega⟩⟩) (Or.inl ⟨by simp [up_app], Or.inl (by omega)⟩))
                | (refine hrl _ ?_; exact no_mk hn hx he hc hg (fun k hk => by (repeat rw [up_ne (by omega)])) (fun y hy => by simp [up_app, hy]) (by simp [up_app]) (Or.inr ⟨by simp [up_app], by simp [up_app], by omega, Or.inr ⟨by omega, by omega⟩⟩) (Or.inl ⟨by simp [up_app], Or.inr (by omega)⟩))
                | (refine hrl _ ?_; exact no_mk hn hx he hc hg (fun k hk => by (repeat rw [up_ne (by omega)])) (fun y hy => by simp [up_app, hy]) (by simp [up_app]) (Or.inr ⟨by simp [up_app], by simp [up_app], by omega, Or.inr ⟨by omega, by omega⟩⟩) (Or.inr ⟨by simp [up_app], by omega, by omega⟩))
            · refine f_aload_n hZ dX7_notes_103 rfl ?_
              refine gX7_59 hZ dX7_notes_104 ?_
              refine f_iload_n hZ dX7_notes_107 rfl ?_
              refine f_iload hZ dX7_notes_108 rfl ?_
              refine f_iastore hZ dX7_notes_110 (by first | rfl | exact hC.t1 | exact hC.t2 | exact hC.t3 | exact hC.t4 | exact hC.t5) (by first | rfl | exact hC.l1 | exact hC.l2 | exact hC.l3 | exact hC.l4 | exact hC.l5) (by first | omega | (simp only [up_app, Nat.reduceEqDiff, Int.reduceEq, and_true, true_and, and_self, and_false, false_and, if_true, if_false, reduceIte]; omega)) (by first | omega | (simp only [up_app, Nat.reduceEqDiff, Int.reduceEq, and_true, true_and, and_self, and_false, false_and, if_true, if_false, reduceIte]; omega)) (by first | omega | (simp only [up_app, Nat.reduceEqDiff, Int.reduceEq, and_true, true_and, and_self, and_false, false_and, if_true, if_false, reduceIte]; omega)) ?_
              refine f_aload_n hZ dX7_notes_111 rfl ?_
              refine gX7_53 hZ dX7_notes_112 ?_
              refine f_iload_n hZ dX7_notes_115 rfl ?_
              refine f_iconst hZ dX7_notes_116 ?_
              refine f_iastore hZ dX7_notes_117 (by first | rfl | exact hC.t1 | exact hC.t2 | exact hC.t3 | exact hC.t4 | exact hC.t5) (by first | rfl | exact hC.l1 | exact hC.l2 | exact hC.l3 | exact hC.l4 | exact hC.l5) (by first | omega | (simp only [up_app, Nat.reduceEqDiff, Int.reduceEq, and_true, true_and, and_self, and_false, false_and, if_true, if_false, reduceIte]; omega)) (by first | omega | (simp only [up_app, Nat.reduceEqDiff, Int.reduceEq, and_true, true_and, and_self, and_false, false_and, if_true, if_false, reduceIte]; omega)) (by first | omega | (simp only [up_app, Nat.reduceEqDiff, Int.reduceEq, and_true, true_and, and_self, and_false, false_and, if_true, if_false, reduceIte]; omega)) ?_
              refine f_iconst hZ dX7_notes_118 ?_
              refine f_istore (L' := [_, _, _, _, _, _]) hZ dX7_notes_119 rfl rfl ?_
              first
                | (exfalso; omega)
                | (refine hrl _ ?_; exact no_mk hn hx he hc hg (fun k hk => by (repeat rw [up_ne (by omega)])) (fun y hy => by simp [up_app, hy]) (by simp [up_app]) (Or.inl ⟨by simp [up_app], by simp [up_app], Or.inl (by omega)⟩) (Or.inl ⟨by simp [up_app], Or.inl (by omega)⟩))
                | (refine hrl _ ?_; exact no_mk hn hx he hc hg (fun k hk => by (repeat rw [up_ne (by omega)])) (fun y hy => by simp [up_app, hy]) (by simp [up_app]) (Or.inl ⟨by simp [up_app], by simp [up_app], Or.inl (by omega)⟩) (Or.inl ⟨by simp [up_app], Or.inr (by omega)⟩))
                | (refine hrl _ ?_; exact no_mk hn hx he hc hg (fun k hk => by (repeat rw [up_ne (by omega)])) (fun y hy => by simp [up_app, hy]) (by simp [up_app]) (Or.inl ⟨by simp [up_app], by simp [up_app], Or.inl (by omega)⟩) (Or.inr ⟨by simp [up_app], by omega, by omega⟩))
                | (refine hrl _ ?_; exact no_mk hn hx he hc hg (fun k hk => by (repeat rw [up_ne (by omega)])) (fun y hy => by simp [up_app, hy]) (by simp [up_app]) (Or.inl ⟨by simp [up_app], by simp [up_app], Or.inr (Or.inl (by omega))⟩) (Or.inl ⟨by simp [up_app], Or.inl (by omega)⟩))
                | (refine hrl _ ?_; exact no_mk hn hx he hc hg (fun k hk => by (repeat rw [up_ne (by omega)])) (fun y hy => by simp [up_app, hy]) (by simp [up_app]) (Or.inl ⟨by simp [up_app], by simp [up_app], Or.inr (Or.inl (by omega))⟩) (Or.inl ⟨by simp [up_app], Or.inr (by omega)⟩))
                | (refine hrl _ ?_; exact no_mk hn hx he hc hg (fun k hk => by (repeat rw [up_ne (by omega)])) (fun y hy => by simp [up_app, hy]) (by simp [up_app]) (Or.inl ⟨by simp [up_app], by simp [up_app], Or.inr (Or.inl (by omega))⟩) (Or.inr ⟨by simp [up_app], by omega, by omega⟩))
                | (refine hrl _ ?_; exact no_mk hn hx he hc hg (fun k hk => by (repeat rw [up_ne (by omega)])) (fun y hy => by simp [up_app, hy]) (by simp [up_app]) (Or.inl ⟨by simp [up_app], by simp [up_app], Or.inr (Or.inr ⟨by omega, by omega⟩)⟩) (Or.inl ⟨by simp [up_app], Or.inl (by omega)⟩))
                | (refine hrl _ ?_; exact no_mk hn hx he hc hg (fun k hk => by (repeat rw [up_ne (by omega)])) (fun y hy => by simp [up_app, hy]) (by simp [up_app]) (Or.inl ⟨by simp [up_app], by simp [up_app], Or.inr (Or.inr ⟨by omega, by omega⟩)⟩) (Or.inl ⟨by simp [up_app], Or.inr (by omega)⟩))
                | (refine hrl _ ?_; exact no_mk hn hx he hc hg (fun k hk => by (repeat rw [up_ne (by omega)])) (fun y hy => by simp [up_app, hy]) (by simp [up_app]) (Or.inl ⟨by simp [up_app], by simp [up_app], Or.inr (Or.inr ⟨by omega, by omega⟩)⟩) (Or.inr ⟨by simp [up_app], by omega, by omega⟩))
                | (refine hrl _ ?_; exact no_mk hn hx he hc hg (fun k hk => by (repeat rw [up_ne (by omega)])) (fun y hy => by simp [up_app, hy]) (by simp [up_app]) (Or.inr ⟨by simp [up_app], by simp [up_app], by omega, Or.inl (by omega)⟩) (Or.inl ⟨by simp [up_app], Or.inl (by omega)⟩))
                | (refine hrl _ ?_; exact no_mk hn hx he hc hg (fun k hk => by (repeat rw [up_ne (by omega)])) (fun y hy => by simp [up_app, hy]) (by simp [up_app]) (Or.inr ⟨by simp [up_app], by simp [up_app], by omega, Or.inl (by omega)⟩) (Or.inl ⟨by simp [up_app], Or.inr (by omega)⟩))
                | (refine hrl _ ?_; exact no_mk hn hx he hc hg (fun k hk => by (repeat rw [up_ne (by omega)])) (fun y hy => by simp [up_app, hy]) (by simp [up_app]) (Or.inr ⟨by simp [up_app], by simp [up_app], by omega, Or.inl (by omega)⟩) (Or.inr ⟨by simp [up_app], by omega, by omega⟩))
                | (refine hrl _ ?_; exact no_mk hn hx he hc hg (fun k hk => by (repeat rw [up_ne (by omega)])) (fun y hy => by simp [up_app, hy]) (by simp [up_app]) (Or.inr ⟨by simp [up_app], by simp [up_app], by omega, Or.inr ⟨by omega, by omega⟩⟩) (Or.inl ⟨by simp [up_app], Or.inl (by omega)⟩))
                | (refine hrl _ ?_; exact no_mk hn hx he hc hg (fun k hk => by (repeat rw [up_ne (by omega)])) (fun y hy => by simp [up_app, hy]) (by simp [up_app]) (Or.inr ⟨by simp [up_app], by simp [up_app], by omega, Or.inr ⟨by omega, by omega⟩⟩) (Or.inl ⟨by simp [up_app], Or.inr (by omega)⟩))
                | (refine hrl _ ?_; exact no_mk hn hx he hc hg (fun k hk => by (repeat rw [up_ne (by omega)])) (fun y hy => by simp [up_app, hy]) (by simp [up_app]) (Or.inr ⟨by simp [up_app], by simp [up_app], by omega, Or.inr ⟨by omega, by omega⟩⟩) (Or.inr ⟨by simp [up_app], by omega, by omega⟩))

