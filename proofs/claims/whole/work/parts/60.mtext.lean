/-! the model's says, text -/
def sY (M K : fM) : Prop := (∀ c, c ≠ 59 → K c = M c) ∧ ∀ k, (k < 15 ∨ 29 < k) → K 59 k = M 59 k
theorem sY.refl {M : fM} : sY M M := ⟨fun _ _ => rfl, fun _ _ => rfl⟩
theorem sY.trans {M N K : fM} (h : sY M N) (h2 : sY N K) : sY M K := ⟨fun c a => by rw [h2.1 c a, h.1 c a], fun k a => by rw [h2.2 k a, h.2 k a]⟩
/-- text t is taken: its bytes read well -/
def mTx (M : fM) (t : Int) (B : Int → Int) (n : Int) : Prop := M 61 t = n ∧ (0 ≤ n ∧ n ≤ 160) ∧ (∀ i, 0 ≤ i → i < n → M 60 (160 * t + i) = B i) ∧ (∀ i, 0 ≤ i → i < n → 0 ≤ B i ∧ B i ≤ 255) ∧ ∃ y, rdF B n = .ok y
def nmU (M : fM) (a l b w s : Int) : fM := up (up (up (up (up (up M 59 15 a) 59 16 (M 59 13)) 59 17 l) 59 18 b) 59 19 w) 59 20 s
theorem nmU_nm {M : fM} {a l b w s : Int} : nmM (nmU M a l b w s) = nmf a (M 59 13) l b w s := rfl
theorem nmU_sY {M : fM} {a l b w s : Int} : sY M (nmU M a l b w s) := ⟨fun c hc => by unfold nmU; rw [up_ne hc, up_ne hc, up_ne hc, up_ne hc, up_ne hc, up_ne hc], fun k hk => by unfold nmU; rw [up_app, if_neg (by omega), up_app, if_neg (by omega), up_app, if_neg (by omega), up_app, if_neg (by omega), up_app, if_neg (by omega), up_app, if_neg (by omega)]⟩
set_option maxRecDepth 20000 in
set_option maxHeartbeats 4000000 in
theorem t_X7_says {X : fX} {M : fM} {d : Nat} {B : Int → Int} {n k a l b w s : Int} (hk : 0 ≤ k ∧ k ≤ 2) (ht : 0 ≤ M 59 4 ∧ M 59 4 < 6) (hT : mTx M (M 59 4) B n) (ha : rg a) (hl : rg l) (hb : rg b) (hw : rg w) (hs : rg s) : fC X (d + 48) mX7_says [.ref (xa X 59), .int (iv k), .int (iv a), .int (iv l), .int (iv b), .int (iv w), .int (iv s)] M (QI fun r K => sY M K ∧ r = bd (if k = 1 then 999 else 99) (vtx B n k (nmf a (M 59 13) l b w s))) := by
  refine fC.of (L := [_, _, _, _, _, _, _]) (by decide +kernel) rfl (Nat.le_of_ble_eq_true rfl) (fun Z hZ hR => ?_)
  refine f_aload_n hZ dX7_says_0 rfl ?_
  refine f_iload_n hZ dX7_says_1 rfl ?_
  refine pX7_211 hZ dX7_says_2 (by first | omega | (simp only [up_app, Nat.reduceEqDiff, Int.reduceEq, and_true, true_and, and_self, and_false, false_and, if_true, if_false, reduceIte]; omega)) ?_
  refine f_aload_n hZ dX7_says_5 rfl ?_
  refine f_aload_n hZ dX7_says_6 rfl ?_
  refine gX7_133 hZ dX7_says_7 (fun r7 => ?_)
  try simp only [up_app, Nat.reduceEqDiff, Int.reduceEq, and_true, true_and, and_self, and_false, false_and, if_true, if_false, reduceIte] at r7 ⊢
  refine pX7_214 hZ dX7_says_10 (by first | omega | (simp only [up_app, Nat.reduceEqDiff, Int.reduceEq, and_true, true_and, and_self, and_false, false_and, if_true, if_false, reduceIte]; omega)) ?_
  refine f_aload_n hZ dX7_says_13 rfl ?_
  refine f_iload_n hZ dX7_says_14 rfl ?_
  refine pX7_217 hZ dX7_says_15 (by first | omega | (simp only [up_app, Nat.reduceEqDiff, Int.reduceEq, and_true, true_and, and_self, and_false, false_and, if_true, if_false, reduceIte]; omega)) ?_
  refine f_aload_n hZ dX7_says_18 rfl ?_
  refine f_iload hZ dX7_says_19 rfl ?_
  refine pX7_220 hZ dX7_says_21 (by first | omega | (simp only [up_app, Nat.reduceEqDiff, Int.reduceEq, and_true, true_and, and_self, and_false, false_and, if_true, if_false, reduceIte]; omega)) ?_
  refine f_aload_n hZ dX7_says_24 rfl ?_
  refine f_iload hZ dX7_says_25 rfl ?_
  refine pX7_223 hZ dX7_says_27 (by first | omega | (simp only [up_app, Nat.reduceEqDiff, Int.reduceEq, and_true, true_and, and_self, and_false, false_and, if_true, if_false, reduceIte]; omega)) ?_
  refine f_aload_n hZ dX7_says_30 rfl ?_
  refine f_iload hZ dX7_says_31 rfl ?_
  refine pX7_226 hZ dX7_says_33 (by first | omega | (simp only [up_app, Nat.reduceEqDiff, Int.reduceEq, and_true, true_and, and_self, and_false, false_and, if_true, if_false, reduceIte]; omega)) ?_
  refine f_aload_n hZ dX7_says_36 rfl ?_
  refine f_aload_n hZ dX7_says_37 rfl ?_
  refine gX7_269 hZ dX7_says_38 (fun r38 => ?_)
  try simp only [up_app, Nat.reduceEqDiff, Int.reduceEq, and_true, true_and, and_self, and_false, false_and, if_true, if_false, reduceIte] at r38 ⊢
  refine f_iload_n hZ dX7_says_41 rfl ?_
  refine vX7_266 hZ dX7_says_42 (t_X7_read (M := nmU M a l b w s) (B := B) (n := n) ht hk hT.1 hT.2.1 hT.2.2.1 hT.2.2.2.1) (fun a42 M42 r42 h42 => ?_)
  have h42v := (h42.2.resolve_left (fun ⟨p, z, _⟩ => by obtain ⟨y, hy⟩ := hT.2.2.2.2; rw [hy] at z; cases z)).2.2
  refine f_iconst hZ dX7_says_45 ?_
  refine f_iload_n hZ dX7_says_46 rfl ?_
  refine f_iconst hZ dX7_says_47 ?_
  refine f_ine (tgt := 57) hZ dX7_says_48 rfl (by first | omega | (simp only [up_app, Nat.reduceEqDiff, Int.reduceEq, and_true, true_and, and_self, and_false, false_and, if_true, if_false, reduceIte]; omega)) (by first | omega | (simp only [up_app, Nat.reduceEqDiff, Int.reduceEq, and_true, true_and, and_self, and_false, false_and, if_true, if_false, reduceIte]; omega)) (fun h48 => ?_) (fun h48 => ?_)
  · refine f_bipush hZ dX7_says_57 ?_
    refine sX7_272 hZ dX7_says_59 (t_X7_within (by omega) (by omega) (by omega)) (fun a59 M59 r59 h59 => ?_)
    obtain ⟨e59, h59⟩ := h59
    replace e59 := e59.symm
    subst e59
    exact f_retI hZ hR dX7_says_62 rfl (by first | omega | (simp only [up_app, Nat.reduceEqDiff, Int.reduceEq, and_true, true_and, and_self, and_false, false_and, if_true, if_false, reduceIte]; omega)) (by first | (have hk1 : k = 1 := (by omega); rw [if_pos hk1]; (have hv := h42v; refine ⟨nmU_sY.trans ⟨h42.1.1, fun k hk => h42.1.2 k (by omega)⟩, ?_⟩; unfold bd; rw [← nmU_nm, ← hv]; omega)) | (rw [if_neg (by omega)]; (have hv := h42v; refine ⟨nmU_sY.trans ⟨h42.1.1, fun k hk => h42.1.2 k (by omega)⟩, ?_⟩; unfold bd; rw [← nmU_nm, ← hv]; omega)))
  · refine f_sipush hZ dX7_says_51 ?_
    refine f_goto (tgt := 59) hZ dX7_says_54 rfl ?_
    refine sX7_272 hZ dX7_says_59 (t_X7_within (by omega) (by omega) (by omega)) (fun a59 M59 r59 h59 => ?_)
    obtain ⟨e59, h59⟩ := h59
    replace e59 := e59.symm
    subst e59
    exact f_retI hZ hR dX7_says_62 rfl (by first | omega | (simp only [up_app, Nat.reduceEqDiff, Int.reduceEq, and_true, true_and, and_self, and_false, false_and, if_true, if_false, reduceIte]; omega)) (by first | (have hk1 : k = 1 := (by omega); rw [if_pos hk1]; (have hv := h42v; refine ⟨nmU_sY.trans ⟨h42.1.1, fun k hk => h42.1.2 k (by omega)⟩, ?_⟩; unfold bd; rw [← nmU_nm, ← hv]; omega)) | (rw [if_neg (by omega)]; (have hv := h42v; refine ⟨nmU_sY.trans ⟨h42.1.1, fun k hk => h42.1.2 k (by omega)⟩, ?_⟩; unfold bd; rw [← nmU_nm, ← hv]; omega)))

def cpT (M : fM) (t : Int) (i : Int) : fM := fun c j => if c = 60 ∧ 160 * t ≤ j ∧ j < 160 * t + i then M 62 (j - 160 * t) else M c j
theorem cpT_0 {M : fM} {t : Int} : cpT M t 0 = M := by funext c j; unfold cpT; rw [if_neg (by omega)]
theorem cpT_ne {M : fM} {t i : Int} {c : Nat} (h : c ≠ 60) : cpT M t i c = M c := by funext j; unfold cpT; rw [if_neg (fun z => h z.1)]
theorem cpT_st {M : fM} {t i v : Int} (h0 : 0 ≤ i) (hv : v = M 62 i) : up (cpT M t i) 60 (160 * t + i) v = cpT M t (i + 1) := by
  funext c j
  rw [up_app]
  unfold cpT
  by_cases h : c = 60 ∧ j = 160 * t + i
  · rw [if_pos h, if_pos (by omega), h.2, hv]; congr 1; omega
  · rw [if_neg h]
    by_cases h2 : c = 60 ∧ 160 * t ≤ j ∧ j < 160 * t + i
    · rw [if_pos h2, if_pos (by omega)]
    · rw [if_neg h2, if_neg (fun z => by
        have : j ≠ 160 * t + i := fun y => h ⟨z.1, y⟩
        exact h2 ⟨z.1, z.2.1, by omega⟩)]
theorem cpT_at {M : fM} {t n i : Int} (h : 0 ≤ i ∧ i < n) : cpT M t n 60 (160 * t + i) = M 62 i := by
  unfold cpT
  rw [if_pos (by omega)]
  congr 1
  omega
theorem cpT_out {M : fM} {t n j : Int} (h : j < 160 * t ∨ 160 * t + n ≤ j) : cpT M t n 60 j = M 60 j := by
  unfold cpT
  rw [if_neg (by omega)]
/-- a text is taken from the tape, or refused -/
def txQ (B : Int → Int) (M : fM) (r : Int) (K : fM) : Prop := (M 59 3 = 6 ∧ r = -4 ∧ K = M) ∨ (M 59 3 < 6 ∧ K 59 6 = 0 ∧ (∀ c, c ≠ 59 → c ≠ 60 → c ≠ 61 → K c = M c) ∧ (∀ k, (k < 21 ∨ 29 < k) → k ≠ 3 → k ≠ 6 → K 59 k = M 59 k) ∧ (∀ j, j < 160 * M 59 3 → K 60 j = M 60 j) ∧ (∀ j, j ≠ M 59 3 → K 61 j = M 61 j) ∧ ((∃ p, rdF B (M 59 6) = .error p ∧ (0 ≤ p ∧ p ≤ M 59 6) ∧ r = -100 - p ∧ K 59 3 = M 59 3) ∨ (mTx K (M 59 3) B (M 59 6) ∧ r = M 59 3 ∧ K 59 3 = M 59 3 + 1)))
def txM (M : fM) : fM := up (up (cpT M (M 59 3) (M 59 6)) 61 (M 59 3) (M 59 6)) 59 6 0
theorem rdN_flt {B : Int → Int} {n k v : Int} {M N : fM} (h : rdN B n M k v N) (hb : N 59 28 ≠ 0) : 0 ≤ N 59 29 ∧ N 59 29 ≤ n := by
  rcases h.2 with ⟨p, p1, p2, p3, p4⟩ | ⟨_, q, _⟩
  · rw [p4]; exact p2
  · exact absurd q hb
theorem txQ.mk {B : Int → Int} {M N K : fM} {v r : Int} (h3 : 0 ≤ M 59 3 ∧ M 59 3 < 6) (hn : 0 ≤ M 59 6 ∧ M 59 6 ≤ 160) (hB : ∀ i, 0 ≤ i → i < M 59 6 → M 62 i = B i) (hB2 : ∀ i, 0 ≤ i → i < M 59 6 → 0 ≤ B i ∧ B i ≤ 255) (h : rdN B (M 59 6) (txM M) 0 v N) (hr : (N 59 28 ≠ 0 ∧ r = -100 - N 59 29 ∧ K = N) ∨ (N 59 28 = 0 ∧ r = M 59 3 ∧ K = up N 59 3 (M 59 3 + 1))) : txQ B M r K := by
  obtain ⟨⟨f1, f2⟩, h⟩ := h
  have hK : (∀ c, c ≠ 59 → K c = N c) ∧ ∀ k, k ≠ 3 → K 59 k = N 59 k := by
    rcases hr with ⟨_, _, rfl⟩ | ⟨_, _, rfl⟩
    · exact ⟨fun _ _ => rfl, fun _ _ => rfl⟩
    · exact ⟨fun c hc => up_ne hc, fun k hk => by rw [up_app, if_neg (by omega)]⟩
  have e59 : ∀ k, (k < 21 ∨ 29 < k) → k ≠ 6 → N 59 k = M 59 k := fun k a b => by
    rw [f2 k a]
    show up _ 59 6 0 59 k = _
    rw [up_app, if_neg (by omega), up_ne (by decide), cpT_ne (by decide)]
  have e60 : N 60 = cpT M (M 59 3) (M 59 6) 60 := by
    rw [f1 60 (by decide)]
    show up _ 59 6 0 60 = _
    rw [up_ne (by decide), up_ne (by decide)]
  have e61 : ∀ j, N 61 j = if j = M 59 3 then M 59 6 else M 61 j := fun j => by
    rw [f1 61 (by decide)]
    show up _ 59 6 0 61 j = _
    rw [up_ne (by decide), up_app, cpT_ne (by decide)]
    by_cases hj : j = M 59 3
    · rw [if_pos ⟨rfl, hj⟩, if_pos hj]
    · rw [if_neg (fun z => hj z.2), if_neg hj]
  refine Or.inr ⟨h3.2, ?_, fun c a b e => ?_, fun k a b e => by rw [hK.2 k b, e59 k a e], fun j hj => ?_, fun j hj => ?_, ?_⟩
  · rw [hK.2 6 (by decide), f2 6 (by omega)]; rfl
  · rw [hK.1 c a, f1 c a]
    show up _ 59 6 0 c = _
    rw [up_ne a, up_ne e, cpT_ne b]
  · rw [hK.1 60 (by decide), e60, cpT_out (Or.inl hj)]
  · rw [hK.1 61 (by decide), e61, if_neg hj]
  · rcases hr with ⟨a, b, c⟩ | ⟨a, b, c⟩
    · rcases h with ⟨p, p1, p2, p3, p4⟩ | ⟨_, q, _⟩
      · exact Or.inl ⟨p, p1, p2, by rw [b, p4], by rw [c, e59 3 (by omega) (by decide)]⟩
      · exact absurd q a
    · rcases h with ⟨p, p1, p2, p3, p4⟩ | ⟨hy, q, _⟩
      · exact absurd a p3
      · refine Or.inr ⟨⟨?_, hn, fun i i0 i1 => ?_, hB2, hy⟩, b, by rw [c]; rfl⟩
        · rw [hK.1 61 (by decide), e61, if_pos rfl]
        · rw [hK.1 60 (by decide), e60, cpT_at ⟨i0, i1⟩, hB i i0 i1]
set_option maxRecDepth 20000 in
set_option maxHeartbeats 4000000 in
theorem t_X7_text {X : fX} {M : fM} {B : Int → Int} {d : Nat} (h3 : 0 ≤ M 59 3 ∧ M 59 3 ≤ 6) (hn : 0 ≤ M 59 6 ∧ M 59 6 ≤ 160) (hB : ∀ i, 0 ≤ i → i < M 59 6 → M 62 i = B i) (hB2 : ∀ i, 0 ≤ i → i < M 59 6 → 0 ≤ B i ∧ B i ≤ 255) : fC X (d + 48) mX7_text [.ref (xa X 59)] M (QI fun r K => txQ B M r K) := by
  refine fC.of (L := [_, _]) (by decide +kernel) rfl (Nat.le_of_ble_eq_true rfl) (fun Z hZ hR => ?_)
  have tx61 : txM M 61 (M 59 3) = M 59 6 := by
    show up _ 59 6 0 61 _ = _
    rw [up_ne (by decide), up_app, if_pos ⟨rfl, rfl⟩]
  have tx60 : ∀ i, 0 ≤ i → i < M 59 6 → txM M 60 (160 * M 59 3 + i) = B i := fun i i0 i1 => by
    show up _ 59 6 0 60 _ = _
    rw [up_ne (by decide), up_ne (by decide), cpT_at ⟨i0, i1⟩, hB i i0 i1]
  have loop : ∀ (m : Nat) (i : Int), i + m = M 59 6 → 0 ≤ i → M 59 3 < 6 → fG X mX7_text Z 14 [.ref (xa X 59), .int (iv i)] [] (cpT M (M 59 3) i) := by
    intro m
    induction m with
    | zero =>
      intro i him hi0 ht
      refine f_iload_n hZ dX7_text_14 rfl ?_
      refine f_aload_n hZ dX7_text_15 rfl ?_
      refine gX7_151 hZ dX7_text_16 (fun r16 => ?_)
      try simp only [cpT_ne (show (59 : Nat) ≠ 60 by decide), up_app, Nat.reduceEqDiff, Int.reduceEq, and_true, true_and, and_self, and_false, false_and, if_true, if_false, reduceIte] at r16 ⊢
      refine f_ige (tgt := 49) hZ dX7_text_19 rfl (by first | omega | (simp only [cpT_ne (show (59 : Nat) ≠ 60 by decide), up_app, Nat.reduceEqDiff, Int.reduceEq, and_true, true_and, and_self, and_false, false_and, if_true, if_false, reduceIte]; omega)) (by first | omega | (simp only [cpT_ne (show (59 : Nat) ≠ 60 by decide), up_app, Nat.reduceEqDiff, Int.reduceEq, and_true, true_and, and_self, and_false, false_and, if_true, if_false, reduceIte]; omega)) (fun h19 => ?_) (fun h19 => ?_)
      · rw [show i = M 59 6 by omega]
        refine f_aload_n hZ dX7_text_49 rfl ?_
        refine gX7_17 hZ dX7_text_50 ?_
        refine f_aload_n hZ dX7_text_53 rfl ?_
        refine gX7_107 hZ dX7_text_54 (fun r54 => ?_)
        try simp only [cpT_ne (show (59 : Nat) ≠ 60 by decide), up_app, Nat.reduceEqDiff, Int.reduceEq, and_true, true_and, and_self, and_false, false_and, if_true, if_false, reduceIte] at r54 ⊢
        refine f_aload_n hZ dX7_text_57 rfl ?_
        refine gX7_151 hZ dX7_text_58 (fun r58 => ?_)
        try simp only [cpT_ne (show (59 : Nat) ≠ 60 by decide), up_app, Nat.reduceEqDiff, Int.reduceEq, and_true, true_and, and_self, and_false, false_and, if_true, if_false, reduceIte] at r58 ⊢
        refine f_iastore hZ dX7_text_61 (by first | rfl | exact hC.t1 | exact hC.t2 | exact hC.t3 | exact hC.t4 | exact hC.t5) (by first | rfl | exact hC.l1 | exact hC.l2 | exact hC.l3 | exact hC.l4 | exact hC.l5) (by first | omega | (simp only [cpT_ne (show (59 : Nat) ≠ 60 by decide), up_app, Nat.reduceEqDiff, Int.reduceEq, and_true, true_and, and_self, and_false, false_and, if_true, if_false, reduceIte]; omega)) (by first | omega | (simp only [cpT_ne (show (59 : Nat) ≠ 60 by decide), up_app, Nat.reduceEqDiff, Int.reduceEq, and_true, true_and, and_self, and_false, false_and, if_true, if_false, reduceIte]; omega)) (by first | omega | (simp only [cpT_ne (show (59 : Nat) ≠ 60 by decide), up_app, Nat.reduceEqDiff, Int.reduceEq, and_true, true_and, and_self, and_false, false_and, if_true, if_false, reduceIte]; omega)) ?_
        refine f_aload_n hZ dX7_text_62 rfl ?_
        refine f_iconst hZ dX7_text_63 ?_
        refine pX7_151 hZ dX7_text_64 (by first | omega | (simp only [cpT_ne (show (59 : Nat) ≠ 60 by decide), up_app, Nat.reduceEqDiff, Int.reduceEq, and_true, true_and, and_self, and_false, false_and, if_true, if_false, reduceIte]; omega)) ?_
        refine f_aload_n hZ dX7_text_67 rfl ?_
        refine f_aload_n hZ dX7_text_68 rfl ?_
        refine gX7_107 hZ dX7_text_69 (fun r69 => ?_)
        try simp only [cpT_ne (show (59 : Nat) ≠ 60 by decide), up_app, Nat.reduceEqDiff, Int.reduceEq, and_true, true_and, and_self, and_false, false_and, if_true, if_false, reduceIte] at r69 ⊢
        refine f_iconst hZ dX7_text_72 ?_
        rw [show up (up (cpT M (M 59 3) (M 59 6)) 61 (M 59 3) (M 59 6)) 59 6 0 = txM M from rfl]
        refine vX7_266 hZ dX7_text_73 (t_X7_read (M := txM M) (B := B) (n := M 59 6) (k := 0) (by omega) (by omega) tx61 hn tx60 hB2) (fun a73 M73 r73 h73 => ?_)
        have e3 : M73 59 3 = M 59 3 := h73.1.2 3 (by omega)
        try rw [e3]
        refine f_istore_n (L' := [_, _]) hZ dX7_text_76 rfl rfl ?_
        refine f_aload_n hZ dX7_text_77 rfl ?_
        refine gX7_187 hZ dX7_text_78 (fun r78 => ?_)
        try simp only [cpT_ne (show (59 : Nat) ≠ 60 by decide), up_app, Nat.reduceEqDiff, Int.reduceEq, and_true, true_and, and_self, and_false, false_and, if_true, if_false, reduceIte] at r78 ⊢
        refine f_eq (tgt := 92) hZ dX7_text_81 rfl (by first | omega | (simp only [cpT_ne (show (59 : Nat) ≠ 60 by decide), up_app, Nat.reduceEqDiff, Int.reduceEq, and_true, true_and, and_self, and_false, false_and, if_true, if_false, reduceIte]; omega)) (fun h81 => ?_) (fun h81 => ?_)
        · refine f_aload_n hZ dX7_text_92 rfl ?_
          refine f_dup hZ dX7_text_93 rfl ?_
          refine gX7_107 hZ dX7_text_94 (fun r94 => ?_)
          try simp only [cpT_ne (show (59 : Nat) ≠ 60 by decide), up_app, Nat.reduceEqDiff, Int.reduceEq, and_true, true_and, and_self, and_false, false_and, if_true, if_false, reduceIte] at r94 ⊢
          refine f_iconst hZ dX7_text_97 ?_
          refine f_iadd hZ dX7_text_98 ?_
          refine pX7_107 hZ dX7_text_99 (by first | omega | (simp only [cpT_ne (show (59 : Nat) ≠ 60 by decide), up_app, Nat.reduceEqDiff, Int.reduceEq, and_true, true_and, and_self, and_false, false_and, if_true, if_false, reduceIte]; omega)) ?_
          refine f_aload_n hZ dX7_text_102 rfl ?_
          refine gX7_107 hZ dX7_text_103 (fun r103 => ?_)
          try simp only [cpT_ne (show (59 : Nat) ≠ 60 by decide), up_app, Nat.reduceEqDiff, Int.reduceEq, and_true, true_and, and_self, and_false, false_and, if_true, if_false, reduceIte] at r103 ⊢
          refine f_iconst hZ dX7_text_106 ?_
          refine f_isub hZ dX7_text_107 ?_
          exact f_retI hZ hR dX7_text_108 rfl (by first | omega | (simp only [cpT_ne (show (59 : Nat) ≠ 60 by decide), up_app, Nat.reduceEqDiff, Int.reduceEq, and_true, true_and, and_self, and_false, false_and, if_true, if_false, reduceIte]; omega)) (by first | exact txQ.mk (by omega) hn hB hB2 h73 (Or.inl ⟨by omega, rfl, rfl⟩) | exact txQ.mk (by omega) hn hB hB2 h73 (Or.inr ⟨by omega, by omega, by rw [e3]⟩))
        · have hfr := rdN_flt h73 (by omega)
          refine f_bipush hZ dX7_text_84 ?_
          refine f_aload_n hZ dX7_text_86 rfl ?_
          refine gX7_191 hZ dX7_text_87 (fun r87 => ?_)
          try simp only [cpT_ne (show (59 : Nat) ≠ 60 by decide), up_app, Nat.reduceEqDiff, Int.reduceEq, and_true, true_and, and_self, and_false, false_and, if_true, if_false, reduceIte] at r87 ⊢
          refine f_isub hZ dX7_text_90 ?_
          exact f_retI hZ hR dX7_text_91 rfl (by first | omega | (simp only [cpT_ne (show (59 : Nat) ≠ 60 by decide), up_app, Nat.reduceEqDiff, Int.reduceEq, and_true, true_and, and_self, and_false, false_and, if_true, if_false, reduceIte]; omega)) (by first | exact txQ.mk (by omega) hn hB hB2 h73 (Or.inl ⟨by omega, rfl, rfl⟩) | exact txQ.mk (by omega) hn hB hB2 h73 (Or.inr ⟨by omega, by omega, by rw [e3]⟩))
      · exfalso; omega
    | succ m ih =>
      intro i him hi0 ht
      refine f_iload_n hZ dX7_text_14 rfl ?_
      refine f_aload_n hZ dX7_text_15 rfl ?_
      refine gX7_151 hZ dX7_text_16 (fun r16 => ?_)
      try simp only [cpT_ne (show (59 : Nat) ≠ 60 by decide), cpT_ne (show (62 : Nat) ≠ 60 by decide), up_app, Nat.reduceEqDiff, Int.reduceEq, and_true, true_and, and_self, and_false, false_and, if_true, if_false, reduceIte] at r16 ⊢
      refine f_ige (tgt := 49) hZ dX7_text_19 rfl (by first | omega | (simp only [cpT_ne (show (59 : Nat) ≠ 60 by decide), up_app, Nat.reduceEqDiff, Int.reduceEq, and_true, true_and, and_self, and_false, false_and, if_true, if_false, reduceIte]; omega)) (by first | omega | (simp only [cpT_ne (show (59 : Nat) ≠ 60 by decide), up_app, Nat.reduceEqDiff, Int.reduceEq, and_true, true_and, and_self, and_false, false_and, if_true, if_false, reduceIte]; omega)) (fun h19 => ?_) (fun h19 => ?_)
      · exfalso; omega
      · refine f_aload_n hZ dX7_text_22 rfl ?_
        refine gX7_13 hZ dX7_text_23 ?_
        refine f_sipush hZ dX7_text_26 ?_
        refine f_aload_n hZ dX7_text_29 rfl ?_
        refine gX7_107 hZ dX7_text_30 (fun r30 => ?_)
        try simp only [cpT_ne (show (59 : Nat) ≠ 60 by decide), cpT_ne (show (62 : Nat) ≠ 60 by decide), up_app, Nat.reduceEqDiff, Int.reduceEq, and_true, true_and, and_self, and_false, false_and, if_true, if_false, reduceIte] at r30 ⊢
        refine f_imul hZ dX7_text_33 ?_
        refine f_iload_n hZ dX7_text_34 rfl ?_
        refine f_iadd hZ dX7_text_35 ?_
        refine f_aload_n hZ dX7_text_36 rfl ?_
        refine gX7_20 hZ dX7_text_37 ?_
        refine f_iload_n hZ dX7_text_40 rfl ?_
        refine f_iaload hZ dX7_text_41 (by first | rfl | exact hC.t1 | exact hC.t2 | exact hC.t3 | exact hC.t4 | exact hC.t5) (by first | rfl | exact hC.l1 | exact hC.l2 | exact hC.l3 | exact hC.l4 | exact hC.l5) (by first | omega | (simp only [cpT_ne (show (59 : Nat) ≠ 60 by decide), up_app, Nat.reduceEqDiff, Int.reduceEq, and_true, true_and, and_self, and_false, false_and, if_true, if_false, reduceIte]; omega)) (by first | omega | (simp only [cpT_ne (show (59 : Nat) ≠ 60 by decide), up_app, Nat.reduceEqDiff, Int.reduceEq, and_true, true_and, and_self, and_false, false_and, if_true, if_false, reduceIte]; omega)) (fun r41 => ?_)
        try simp only [cpT_ne (show (59 : Nat) ≠ 60 by decide), cpT_ne (show (62 : Nat) ≠ 60 by decide), up_app, Nat.reduceEqDiff, Int.reduceEq, and_true, true_and, and_self, and_false, false_and, if_true, if_false, reduceIte] at r41 ⊢
        refine f_iastore hZ dX7_text_42 (by first | rfl | exact hC.t1 | exact hC.t2 | exact hC.t3 | exact hC.t4 | exact hC.t5) (by first | rfl | exact hC.l1 | exact hC.l2 | exact hC.l3 | exact hC.l4 | exact hC.l5) (by first | omega | (simp only [cpT_ne (show (59 : Nat) ≠ 60 by decide), up_app, Nat.reduceEqDiff, Int.reduceEq, and_true, true_and, and_self, and_false, false_and, if_true, if_false, reduceIte]; omega)) (by first | omega | (simp only [cpT_ne (show (59 : Nat) ≠ 60 by decide), up_app, Nat.reduceEqDiff, Int.reduceEq, and_true, true_and, and_self, and_false, false_and, if_true, if_false, reduceIte]; omega)) (by first | omega | (simp only [cpT_ne (show (59 : Nat) ≠ 60 by decide), up_app, Nat.reduceEqDiff, Int.reduceEq, and_true, true_and, and_self, and_false, false_and, if_true, if_false, reduceIte]; omega)) ?_
        refine f_iinc (L' := [_, _]) hZ dX7_text_43 rfl rfl ?_
        refine f_goto (tgt := 14) hZ dX7_text_46 rfl ?_
        rw [cpT_st hi0 rfl]
        exact ih (i + 1) (by omega) (by omega) ht
  refine f_aload_n hZ dX7_text_0 rfl ?_
  refine gX7_107 hZ dX7_text_1 (fun r1 => ?_)
  refine f_bipush hZ dX7_text_4 ?_
  refine f_ine (tgt := 12) hZ dX7_text_6 rfl (by omega) (by omega) (fun h6 => ?_) (fun h6 => ?_)
  · refine f_iconst hZ dX7_text_12 ?_
    refine f_istore_n (L' := [_, _]) hZ dX7_text_13 rfl rfl ?_
    have hl := loop (M 59 6).toNat 0 (by omega) (by omega) (by omega)
    rw [cpT_0] at hl
    exact hl
  · refine f_bipush hZ dX7_text_9 ?_
    exact f_retI hZ hR dX7_text_11 rfl (by omega) (by exact Or.inl ⟨by omega, rfl, rfl⟩)

