/-! the model's tells -/
/-- cell c filled with v up to m -/
def zzM (M : fM) (c : Nat) (m v : Int) : fM := fun k j => if k = c ∧ 0 ≤ j ∧ j < m then v else M k j
theorem zzM_0 {M : fM} {c : Nat} {v : Int} : zzM M c 0 v = M := by funext k j; unfold zzM; rw [if_neg (by omega)]
theorem zzM_st {M : fM} {c : Nat} {m v : Int} (h : 0 ≤ m) : up (zzM M c m v) c m v = zzM M c (m + 1) v := by
  funext k j
  rw [up_app]
  unfold zzM
  by_cases h1 : k = c ∧ j = m
  · rw [if_pos h1, if_pos (by omega)]
  · rw [if_neg h1]
    by_cases h2 : k = c ∧ 0 ≤ j ∧ j < m
    · rw [if_pos h2, if_pos (by omega)]
    · rw [if_neg h2, if_neg (fun z => by
        have : j ≠ m := fun y => h1 ⟨z.1, y⟩
        exact h2 ⟨z.1, z.2.1, by omega⟩)]
theorem zzM_ne {M : fM} {c k : Nat} {m v : Int} (h : k ≠ c) : zzM M c m v k = M k := by funext j; unfold zzM; rw [if_neg (fun z => h z.1)]
theorem zzM_at {M : fM} {c : Nat} {m v j : Int} (h : 0 ≤ j ∧ j < m) : zzM M c m v c j = v := if_pos ⟨rfl, h⟩
/-- the first row, laid up to wick i -/
def r0M (M : fM) (s i : Int) : fM := fun k j => if k = 68 ∧ 0 ≤ j ∧ j < i then (if j < M 59 12 ∧ bitZ s j = 1 then M 65 j else 0) else if k = 69 ∧ 0 ≤ j ∧ j < i then 0 else M k j
theorem r0M_0 {M : fM} {s : Int} : r0M M s 0 = M := by funext k j; unfold r0M; rw [if_neg (by omega), if_neg (by omega)]
theorem r0M_ne {M : fM} {s i : Int} {k : Nat} (h : k ≠ 68) (h2 : k ≠ 69) : r0M M s i k = M k := by funext j; unfold r0M; rw [if_neg (fun z => h z.1), if_neg (fun z => h2 z.1)]
theorem r0M_st {M : fM} {s i a : Int} (h : 0 ≤ i) (ha : a = if i < M 59 12 ∧ bitZ s i = 1 then M 65 i else 0) : up (up (r0M M s i) 68 i a) 69 i 0 = r0M M s (i + 1) := by
  funext c j
  rw [up_app, up_app]
  unfold r0M
  by_cases h9 : c = 69 ∧ j = i
  · rw [if_pos h9, if_neg (by omega), if_pos (by omega)]
  · rw [if_neg h9]
    by_cases h8 : c = 68 ∧ j = i
    · rw [if_pos h8, if_pos (by omega), ha, h8.2]
    · rw [if_neg h8]
      have hj : (c = 68 ∨ c = 69) → j ≠ i := fun z y => by
        rcases z with z | z
        · exact h8 ⟨z, y⟩
        · exact h9 ⟨z, y⟩
      by_cases g : c = 68 ∧ 0 ≤ j ∧ j < i
      · rw [if_pos g, if_pos (show c = 68 ∧ 0 ≤ j ∧ j < i + 1 from ⟨g.1, g.2.1, by omega⟩)]
      · rw [if_neg g, if_neg (show ¬ (c = 68 ∧ 0 ≤ j ∧ j < i + 1) from fun z => by have := hj (Or.inl z.1); exact g ⟨z.1, z.2.1, by omega⟩)]
        by_cases g2 : c = 69 ∧ 0 ≤ j ∧ j < i
        · rw [if_pos g2, if_pos (show c = 69 ∧ 0 ≤ j ∧ j < i + 1 from ⟨g2.1, g2.2.1, by omega⟩)]
        · rw [if_neg g2, if_neg (show ¬ (c = 69 ∧ 0 ≤ j ∧ j < i + 1) from fun z => by have := hj (Or.inr z.1); exact g2 ⟨z.1, z.2.1, by omega⟩)]
def fdM (M : fM) (s d a x : Int) : fM := up (up (up (up (up M 59 35 s) 59 36 d) 59 42 a) 59 43 x) 59 44 0
theorem fdM_ne {M : fM} {s d a x : Int} {k : Nat} (h : k ≠ 59) : fdM M s d a x k = M k := by
  unfold fdM; rw [up_ne h, up_ne h, up_ne h, up_ne h, up_ne h]
theorem fdM_59 {M : fM} {s d a x k : Int} (h : k ≠ 35 ∧ k ≠ 36 ∧ k ≠ 42 ∧ k ≠ 43 ∧ k ≠ 44) : fdM M s d a x 59 k = M 59 k := by
  unfold fdM; rw [up_app, if_neg (by omega), up_app, if_neg (by omega), up_app, if_neg (by omega), up_app, if_neg (by omega), up_app, if_neg (by omega)]
/-- all is laid for the first choice -/
def t0M (N : fM) : fM := up (up (up (up N 70 0 0) 71 0 0) 72 0 0) 59 37 0
/-- what tells begins with: the fields, the notes, the memo -/
def tbG (M : fM) (s d a x : Int) (N : fM) : Prop := (∀ k, k ≠ 73 → k ≠ 77 → N k = fdM M s d a x k) ∧ (∀ j, 0 ≤ j → j ≤ 400 → N 73 j = 0) ∧ (a ≠ 0 → ∀ j, 0 ≤ j → j < 321600 → N 77 j = -1)
def prM (M : fM) (W : Int → pV) (a : Int) : Int → Int → Int → Int → Int := fun w l p t => if a = 0 then 0 else mprZ M (W 0) w l p t
theorem prM_rg {M : fM} {W : Int → pV} {a w l p t : Int} : 0 ≤ prM M W a w l p t ∧ prM M W a w l p t ≤ 99 := by
  unfold prM
  split
  · omega
  · exact bd_rg (by omega)
abbrev smS (M : fM) (W : Int → pV) (s d a : Int) : sN → Prop := SM (M 59 12) s (M 65) (vZ (M 63) (M 64) d) (prM M W a)
def tlG (M K : fM) : Prop := (∀ c, c ≠ 59 → (c < 68 ∨ 77 < c) → K c = M c) ∧ ∀ k, (k < 15 ∨ 44 < k) → K 59 k = M 59 k
def tlP (M : fM) (W : Int → pV) (s d a x : Int) (K : fM) : Prop := tlG M K ∧ nwf K ∧ (∀ y, 0 ≤ y → y ≤ 400 → Lst (smS M W s d a) kyE y UT (vE K y) ∧ Lst (smS M W s d a) kyC y UT (vC K y)) ∧ Apt (smS M W s d a) x 0 (K 59 44) ∧ (K 59 44 = 0 ∨ K 59 44 = 1)
section Tl
variable {M N K : fM} {W : Int → pV} {s d a x : Int}
theorem t0_c {k : Nat} (h : k ≠ 59 ∧ k ≠ 68 ∧ k ≠ 69 ∧ k ≠ 70 ∧ k ≠ 71 ∧ k ≠ 72) : t0M (r0M N s 4) k = N k := by
  unfold t0M; rw [up_ne (by omega), up_ne (by omega), up_ne (by omega), up_ne (by omega), r0M_ne (by omega) (by omega)]
theorem t0_59 {k : Int} (h : k ≠ 37) : t0M (r0M N s 4) 59 k = N 59 k := by
  unfold t0M; rw [up_app, if_neg (fun z => h z.2), up_ne (by decide), up_ne (by decide), up_ne (by decide), r0M_ne (by decide) (by decide)]
theorem tbG_ok (hW : WfM M) (hG : gokM M W) (hd : 0 ≤ d ∧ d ≤ 9) (hb : tbG M s d a x N) (hp : ∀ w, 0 ≤ w → w < M 59 12 → bitZ s w = 1 → M 65 w ≠ 0 ∧ M 66 w = 0) : lvOk (t0M (r0M N s 4)) W 0 0 ∧ ∀ m, liS (t0M (r0M N s 4)) (W 0) 0 0 m ↔ smS M W s d a m := by
  obtain ⟨b1, b2, b3⟩ := hb
  have h4 := hW.1
  have nc : ∀ k, k < 68 → k ≠ 59 → t0M (r0M N s 4) k = M k := fun k h h2 => by rw [t0_c (by omega), b1 k (by omega) (by omega), fdM_ne h2]
  have n59 : ∀ k, k ≠ 37 → t0M (r0M N s 4) 59 k = fdM M s d a x 59 k := fun k h => by rw [t0_59 h, b1 59 (by decide) (by decide)]
  have nf : ∀ k, (k < 35 ∨ 44 < k) → t0M (r0M N s 4) 59 k = M 59 k := fun k h => by rw [n59 k (by omega), fdM_59 (by omega)]
  have n36 : t0M (r0M N s 4) 59 36 = d := n59 36 (by decide)
  have n42 : t0M (r0M N s 4) 59 42 = a := n59 42 (by decide)
  have n44 : t0M (r0M N s 4) 59 44 = 0 := n59 44 (by decide)
  have n12 := nf 12 (by omega)
  have N12 : N 59 12 = M 59 12 := by rw [b1 59 (by decide) (by decide), fdM_59 (by decide)]
  have N65 : N 65 = M 65 := by rw [b1 65 (by decide) (by decide), fdM_ne (by decide)]
  have n68 : ∀ w, 0 ≤ w → w < 4 → t0M (r0M N s 4) 68 w = if w < M 59 12 ∧ bitZ s w = 1 then M 65 w else 0 := fun w h0 h1 => by
    unfold t0M
    rw [up_ne (by decide), up_ne (by decide), up_ne (by decide), up_ne (by decide)]
    unfold r0M
    rw [if_pos ⟨rfl, h0, h1⟩, N12, N65]
  have n69 : ∀ w, 0 ≤ w → w < 4 → t0M (r0M N s 4) 69 w = 0 := fun w h0 h1 => by
    unfold t0M
    rw [up_ne (by decide), up_ne (by decide), up_ne (by decide), up_ne (by decide)]
    unfold r0M
    rw [if_neg (by omega), if_pos ⟨rfl, h0, h1⟩]
  have n70 : t0M (r0M N s 4) 70 0 = 0 := by unfold t0M; rw [up_ne (by decide), up_ne (by decide), up_ne (by decide), up_app, if_pos ⟨rfl, rfl⟩]
  have n71 : t0M (r0M N s 4) 71 0 = 0 := by unfold t0M; rw [up_ne (by decide), up_ne (by decide), up_app, if_pos ⟨rfl, rfl⟩]
  have n72 : t0M (r0M N s 4) 72 0 = 0 := by unfold t0M; rw [up_ne (by decide), up_app, if_pos ⟨rfl, rfl⟩]
  have n37 : t0M (r0M N s 4) 59 37 = 0 := by unfold t0M; rw [up_app, if_pos ⟨rfl, rfl⟩]
  have n73 : t0M (r0M N s 4) 73 = N 73 := t0_c (by decide)
  have n77 : t0M (r0M N s 4) 77 = N 77 := t0_c (by decide)
  have hmz : mprZ (t0M (r0M N s 4)) (W 0) = mprZ M (W 0) := mprZ_eq (nf 13 (by omega)) (nc 65 (by decide) (by decide)) (nc 67 (by decide) (by decide))
  have rP : roP (t0M (r0M N s 4)) 0 = fun w => if (0 ≤ w ∧ w < M 59 12) ∧ bitZ s w = 1 then M 65 w else 0 := by
    funext w
    unfold roP
    rw [n12, show 4 * (0 : Int) + w = w by omega]
    by_cases hw : 0 ≤ w ∧ w < M 59 12
    · rw [if_pos hw, n68 w hw.1 (by omega)]
      by_cases hz : bitZ s w = 1
      · rw [if_pos ⟨hw.2, hz⟩, if_pos ⟨hw, hz⟩]
      · rw [if_neg (fun z => hz z.2), if_neg (fun z => hz z.2)]
    · rw [if_neg hw, if_neg (fun z => hw z.1)]
  refine ⟨⟨⟨hW.eq (fun k h1 h2 => nf k (by omega)) (fun c h1 h2 => nc c (by omega) (by omega)), hG.eq (nf 4 (by omega)) (nc 60 (by decide) (by decide)) (nc 61 (by decide) (by decide)), by rw [n36]; exact hd, Or.inl n44, fun y y0 y1 => Or.inl (by rw [n73]; exact b2 y y0 y1), ?_⟩, by rw [n12]; omega, fun y y0 y1 => ?_, ?_, ?_, ?_, fun _ y y0 y1 => n69 y y0 (by omega)⟩, fun m => ?_⟩
  · unfold cmI
    rw [n42]
    by_cases ha : a = 0
    · exact Or.inl ha
    · refine Or.inr (fun w l p t w0 w1 hl hp ht => Or.inl ?_)
      rw [n77]
      exact b3 ha _ (by unfold cix; omega) (by unfold cix; omega)
  · rw [n12] at y1
    rw [show 4 * (0 : Int) + y = y by omega, n68 y y0 (by omega), n69 y y0 (by omega), nc 65 (by decide) (by decide)]
    have hA := (hW.2.2.2 y y0 y1).2.2.1
    refine ⟨?_, by omega, fun _ => rfl⟩
    split <;> omega
  · rw [rP]
    show cn1 _ + cn1 _ + cn1 _ + cn1 _ ≤ (4 : Int) - 0
    have c0 := cn1_rg ((fun w => if (0 ≤ w ∧ w < M 59 12) ∧ bitZ s w = 1 then M 65 w else 0) 0)
    have c1 := cn1_rg ((fun w => if (0 ≤ w ∧ w < M 59 12) ∧ bitZ s w = 1 then M 65 w else 0) 1)
    have c2 := cn1_rg ((fun w => if (0 ≤ w ∧ w < M 59 12) ∧ bitZ s w = 1 then M 65 w else 0) 2)
    have c3 := cn1_rg ((fun w => if (0 ≤ w ∧ w < M 59 12) ∧ bitZ s w = 1 then M 65 w else 0) 3)
    generalize cn1 _ = q0 at c0 ⊢
    generalize cn1 _ = q1 at c1 ⊢
    generalize cn1 _ = q2 at c2 ⊢
    generalize cn1 _ = q3 at c3 ⊢
    omega
  · unfold lvTm
    rw [n70]
    exact ⟨by omega, fun j j0 j1 => by rw [show j = 0 by omega, n70]; omega⟩
  · unfold lvNum
    rw [n71, n72, n37]
    exact ⟨by omega, by omega, by omega, fun _ => by show (0 : Int) ≤ 0; omega⟩
  · have e1 : lvS (t0M (r0M N s 4)) 0 0 = stS (M 59 12) s (M 65) := by
      unfold lvS stS
      refine Prod.ext rP (Prod.ext (funext fun w => ?_) (Prod.ext n70 (Prod.ext n71 (Prod.ext n72 (Prod.ext ?_ ?_)))))
      · show roL (t0M (r0M N s 4)) 0 w = 0
        unfold roL
        rw [n12, show 4 * (0 : Int) + w = w by omega]
        by_cases hw : 0 ≤ w ∧ w < M 59 12
        · rw [if_pos hw, n69 w hw.1 (by omega)]
        · rw [if_neg hw]
      · show t0M (r0M N s 4) 59 37 * dgU (t0M (r0M N s 4)) 0 0 = 0
        rw [n37, Int.zero_mul]
      · show [t0M (r0M N s 4) 70 0] = [0]
        rw [n70]
    have e2 : mprX (t0M (r0M N s 4)) (W 0) = prM M W a := by
      funext w l p t
      unfold mprX prM
      rw [n42, hmz]
    have e3 : mvZ (t0M (r0M N s 4)) = vZ (M 63) (M 64) d := by
      unfold mvZ
      rw [nc 63 (by decide) (by decide), nc 64 (by decide) (by decide), n36]
    have e4 : unL (t0M (r0M N s 4)) 0 = unZ (M 59 12) := by
      unfold unL
      rw [if_pos rfl, n12]
    unfold liS lvB
    rw [e1, e2, e3, e4]
    exact Iff.rfl
theorem tbG_fin (hb : tbG M s d a x N) (hS : ∀ m, liS (t0M (r0M N s 4)) (W 0) 0 0 m ↔ smS M W s d a m) (hK : liP (t0M (r0M N s 4)) W 0 0 K) : tlP M W s d a x K := by
  obtain ⟨p1, p2, p3⟩ := hK
  have b1 := hb.1
  have u := UpdM.congr (fun m => (hS m).symm) p1
  have n73 : ∀ y, 0 ≤ y → y ≤ 400 → t0M (r0M N s 4) 73 y = 0 := fun y h0 h1 => by rw [t0_c (by decide)]; exact hb.2.1 y h0 h1
  have e43 : t0M (r0M N s 4) 59 43 = x := by rw [t0_59 (by decide), b1 59 (by decide) (by decide)]; rfl
  have e44 : t0M (r0M N s 4) 59 44 = 0 := by rw [t0_59 (by decide), b1 59 (by decide) (by decide)]; rfl
  refine ⟨⟨fun c h1 h2 => by rw [p2.1 c h1 h2, t0_c (by omega), b1 c (by omega) (by omega), fdM_ne h1], fun k h => by rw [p2.2.1 k (by omega) (by omega), t0_59 (by omega), b1 59 (by decide) (by decide), fdM_59 (by omega)]⟩, p3.2.2.2.2.1, fun y y0 y1 => ?_, ?_, p3.2.2.2.1⟩
  · have h := u.1 y y0 y1
    rw [show vE (t0M (r0M N s 4)) y = UT from if_pos (n73 y y0 y1), show vC (t0M (r0M N s 4)) y = UT from if_pos (n73 y y0 y1)] at h
    exact h
  · have h := u.2
    rw [e43, e44] at h
    exact h
end Tl
set_option maxRecDepth 20000 in
set_option maxHeartbeats 4000000 in
theorem t_X7_tells {X : fX} {M : fM} {e : Nat} {W : Int → pV} {s d a x : Int} (hW : WfM M) (hG : gokM M W) (hs : someP (M 59 12) (M 65) (M 66) s) (hsr : rg s) (hd : 0 ≤ d ∧ d ≤ 9) (ha : a = 0 ∨ a = 1) (hx : rg x) : fC X (e + 80) mX7_tells [.ref (xa X 59), .int (iv s), .int (iv d), .int (iv a), .int (iv x)] M (QV fun K => tlP M W s d a x K) := by
  have hn := hW.1
  refine fC.of (L := [_, _, _, _, _, _]) (by decide +kernel) rfl (Nat.le_of_ble_eq_true rfl) (fun Z hZ hR => ?_)
  have k82 : ∀ (N : fM), tbG M s d a x N → ∀ (m : Nat) (i : Int), i + m = 4 → 0 ≤ i → fG X mX7_tells Z 82 [.ref (xa X 59), .int (iv s), .int (iv d), .int (iv a), .int (iv x), .int (iv i)] [] (r0M N s i) := by
    intro N hb m
    have N12 : N 59 12 = M 59 12 := by rw [hb.1 59 (by decide) (by decide), fdM_59 (by decide)]
    have hok := tbG_ok hW hG hd hb hs.2
    induction m with
    | zero =>
      intro i him hi0
      have hi : i = 4 := by omega
      subst hi
      refine f_iload hZ dX7_tells_82 rfl ?_
      refine f_iconst hZ dX7_tells_84 ?_
      refine f_ige (tgt := 139) hZ dX7_tells_85 rfl (by omega) (by omega) (fun h85 => ?_) (fun h85 => ?_)
      · refine f_aload_n hZ dX7_tells_139 rfl ?_
        refine gX7_44 hZ dX7_tells_140 ?_
        refine f_iconst hZ dX7_tells_143 ?_
        refine f_iconst hZ dX7_tells_144 ?_
        refine f_iastore hZ dX7_tells_145 (by first | rfl | exact hC.t1 | exact hC.t2 | exact hC.t3 | exact hC.t4 | exact hC.t5) (by first | rfl | exact hC.l1 | exact hC.l2 | exact hC.l3 | exact hC.l4 | exact hC.l5) (by omega) (by omega) (by omega) ?_
        refine f_aload_n hZ dX7_tells_146 rfl ?_
        refine gX7_47 hZ dX7_tells_147 ?_
        refine f_iconst hZ dX7_tells_150 ?_
        refine f_iconst hZ dX7_tells_151 ?_
        refine f_iastore hZ dX7_tells_152 (by first | rfl | exact hC.t1 | exact hC.t2 | exact hC.t3 | exact hC.t4 | exact hC.t5) (by first | rfl | exact hC.l1 | exact hC.l2 | exact hC.l3 | exact hC.l4 | exact hC.l5) (by omega) (by omega) (by omega) ?_
        refine f_aload_n hZ dX7_tells_153 rfl ?_
        refine gX7_50 hZ dX7_tells_154 ?_
        refine f_iconst hZ dX7_tells_157 ?_
        refine f_iconst hZ dX7_tells_158 ?_
        refine f_iastore hZ dX7_tells_159 (by first | rfl | exact hC.t1 | exact hC.t2 | exact hC.t3 | exact hC.t4 | exact hC.t5) (by first | rfl | exact hC.l1 | exact hC.l2 | exact hC.l3 | exact hC.l4 | exact hC.l5) (by omega) (by omega) (by omega) ?_
        refine f_aload_n hZ dX7_tells_160 rfl ?_
        refine f_iconst hZ dX7_tells_161 ?_
        refine pX7_301 hZ dX7_tells_162 (by omega) ?_
        rw [show up (up (up (up (r0M N s 4) 70 0 0) 71 0 0) 72 0 0) 59 37 0 = t0M (r0M N s 4) from rfl]
        refine f_aload_n hZ dX7_tells_165 rfl ?_
        refine f_iconst hZ dX7_tells_166 ?_
        refine f_iconst hZ dX7_tells_167 ?_
        refine vX7_304 hZ dX7_tells_168 ((t_X7_lights (X := X) (W := W) (n := M 59 12) hn.2 (e + (4 - (M 59 12).toNat)) 4 (M 59 12).toNat (t0M (r0M N s 4)) 0 0 rfl (by omega) (by rw [t0_59 (by decide), N12]) hok.1).dep (by omega)) (fun M168 h168 => ?_)
        exact f_retV hZ hR dX7_tells_171 rfl (by exact tbG_fin hb hok.2 h168)
      · exfalso; omega
    | succ m ih =>
      intro i him hi0
      refine f_iload hZ dX7_tells_82 rfl ?_
      refine f_iconst hZ dX7_tells_84 ?_
      refine f_ige (tgt := 139) hZ dX7_tells_85 rfl (by first | omega | exact rg_of _ | (simp only [r0M_ne (show (59 : Nat) ≠ 68 by decide) (show (59 : Nat) ≠ 69 by decide), r0M_ne (show (65 : Nat) ≠ 68 by decide) (show (65 : Nat) ≠ 69 by decide), up_app, Nat.reduceEqDiff, Int.reduceEq, and_true, true_and, and_self, and_false, false_and, if_true, if_false, reduceIte]; omega)) (by first | omega | exact rg_of _ | (simp only [r0M_ne (show (59 : Nat) ≠ 68 by decide) (show (59 : Nat) ≠ 69 by decide), r0M_ne (show (65 : Nat) ≠ 68 by decide) (show (65 : Nat) ≠ 69 by decide), up_app, Nat.reduceEqDiff, Int.reduceEq, and_true, true_and, and_self, and_false, false_and, if_true, if_false, reduceIte]; omega)) (fun h85 => ?_) (fun h85 => ?_)
      · exfalso; omega
      · refine f_aload_n hZ dX7_tells_88 rfl ?_
        refine gX7_38 hZ dX7_tells_89 ?_
        refine f_iload hZ dX7_tells_92 rfl ?_
        refine f_iload hZ dX7_tells_94 rfl ?_
        refine f_aload_n hZ dX7_tells_96 rfl ?_
        refine gX7_110 hZ dX7_tells_97 (fun r97 => ?_)
        try simp only [r0M_ne (show (59 : Nat) ≠ 68 by decide) (show (59 : Nat) ≠ 69 by decide), r0M_ne (show (65 : Nat) ≠ 68 by decide) (show (65 : Nat) ≠ 69 by decide), up_app, Nat.reduceEqDiff, Int.reduceEq, and_true, true_and, and_self, and_false, false_and, if_true, if_false, reduceIte] at r97 ⊢
        refine f_ige (tgt := 123) hZ dX7_tells_100 rfl (by first | omega | exact rg_of _ | (simp only [r0M_ne (show (59 : Nat) ≠ 68 by decide) (show (59 : Nat) ≠ 69 by decide), r0M_ne (show (65 : Nat) ≠ 68 by decide) (show (65 : Nat) ≠ 69 by decide), up_app, Nat.reduceEqDiff, Int.reduceEq, and_true, true_and, and_self, and_false, false_and, if_true, if_false, reduceIte]; omega)) (by first | omega | exact rg_of _ | (simp only [r0M_ne (show (59 : Nat) ≠ 68 by decide) (show (59 : Nat) ≠ 69 by decide), r0M_ne (show (65 : Nat) ≠ 68 by decide) (show (65 : Nat) ≠ 69 by decide), up_app, Nat.reduceEqDiff, Int.reduceEq, and_true, true_and, and_self, and_false, false_and, if_true, if_false, reduceIte]; omega)) (fun h100 => ?_) (fun h100 => ?_)
        · refine f_iconst hZ dX7_tells_123 ?_
          refine f_iastore hZ dX7_tells_124 (by first | rfl | exact hC.t1 | exact hC.t2 | exact hC.t3 | exact hC.t4 | exact hC.t5) (by first | rfl | exact hC.l1 | exact hC.l2 | exact hC.l3 | exact hC.l4 | exact hC.l5) (by first | omega | exact rg_of _ | (simp only [r0M_ne (show (59 : Nat) ≠ 68 by decide) (show (59 : Nat) ≠ 69 by decide), r0M_ne (show (65 : Nat) ≠ 68 by decide) (show (65 : Nat) ≠ 69 by decide), up_app, Nat.reduceEqDiff, Int.reduceEq, and_true, true_and, and_self, and_false, false_and, if_true, if_false, reduceIte]; omega)) (by first | omega | exact rg_of _ | (simp only [r0M_ne (show (59 : Nat) ≠ 68 by decide) (show (59 : Nat) ≠ 69 by decide), r0M_ne (show (65 : Nat) ≠ 68 by decide) (show (65 : Nat) ≠ 69 by decide), up_app, Nat.reduceEqDiff, Int.reduceEq, and_true, true_and, and_self, and_false, false_and, if_true, if_false, reduceIte]; omega)) (by first | omega | exact rg_of _ | (simp only [r0M_ne (show (59 : Nat) ≠ 68 by decide) (show (59 : Nat) ≠ 69 by decide), r0M_ne (show (65 : Nat) ≠ 68 by decide) (show (65 : Nat) ≠ 69 by decide), up_app, Nat.reduceEqDiff, Int.reduceEq, and_true, true_and, and_self, and_false, false_and, if_true, if_false, reduceIte]; omega)) ?_
          refine f_aload_n hZ dX7_tells_125 rfl ?_
          refine gX7_41 hZ dX7_tells_126 ?_
          refine f_iload hZ dX7_tells_129 rfl ?_
          refine f_iconst hZ dX7_tells_131 ?_
          refine f_iastore hZ dX7_tells_132 (by first | rfl | exact hC.t1 | exact hC.t2 | exact hC.t3 | exact hC.t4 | exact hC.t5) (by first | rfl | exact hC.l1 | exact hC.l2 | exact hC.l3 | exact hC.l4 | exact hC.l5) (by first | omega | exact rg_of _ | (simp only [r0M_ne (show (59 : Nat) ≠ 68 by decide) (show (59 : Nat) ≠ 69 by decide), r0M_ne (show (65 : Nat) ≠ 68 by decide) (show (65 : Nat) ≠ 69 by decide), up_app, Nat.reduceEqDiff, Int.reduceEq, and_true, true_and, and_self, and_false, false_and, if_true, if_false, reduceIte]; omega)) (by first | omega | exact rg_of _ | (simp only [r0M_ne (show (59 : Nat) ≠ 68 by decide) (show (59 : Nat) ≠ 69 by decide), r0M_ne (show (65 : Nat) ≠ 68 by decide) (show (65 : Nat) ≠ 69 by decide), up_app, Nat.reduceEqDiff, Int.reduceEq, and_true, true_and, and_self, and_false, false_and, if_true, if_false, reduceIte]; omega)) (by first | omega | exact rg_of _ | (simp only [r0M_ne (show (59 : Nat) ≠ 68 by decide) (show (59 : Nat) ≠ 69 by decide), r0M_ne (show (65 : Nat) ≠ 68 by decide) (show (65 : Nat) ≠ 69 by decide), up_app, Nat.reduceEqDiff, Int.reduceEq, and_true, true_and, and_self, and_false, false_and, if_true, if_false, reduceIte]; omega)) ?_
          refine f_iinc (L' := [_, _, _, _, _, _]) hZ dX7_tells_133 rfl rfl ?_
          refine f_goto (tgt := 82) hZ dX7_tells_136 rfl ?_
          first
            | (have hz : ¬ (i < N 59 12 ∧ bitZ s i = 1) := fun z => by have := z.1; omega
               rw [r0M_st hi0 (if_neg hz).symm]; exact ih (i + 1) (by omega) (by omega))
            | (have hz : ¬ (i < N 59 12 ∧ bitZ s i = 1) := fun z => h110 z.2
               rw [r0M_st hi0 (if_neg hz).symm]; exact ih (i + 1) (by omega) (by omega))
            | (have hz : i < N 59 12 ∧ bitZ s i = 1 := ⟨by omega, h110⟩
               rw [r0M_st hi0 (if_pos hz).symm]; exact ih (i + 1) (by omega) (by omega))
        · refine f_iload_n hZ dX7_tells_103 rfl ?_
          refine f_iload hZ dX7_tells_104 rfl ?_
          refine f_ishr hZ dX7_tells_106 ?_
          refine f_iconst hZ dX7_tells_107 ?_
          refine f_iand hZ dX7_tells_108 ?_
          refine f_iconst hZ dX7_tells_109 ?_
          refine f_ine (tgt := 123) hZ dX7_tells_110 rfl (by first | omega | exact rg_of _ | (simp only [r0M_ne (show (59 : Nat) ≠ 68 by decide) (show (59 : Nat) ≠ 69 by decide), r0M_ne (show (65 : Nat) ≠ 68 by decide) (show (65 : Nat) ≠ 69 by decide), up_app, Nat.reduceEqDiff, Int.reduceEq, and_true, true_and, and_self, and_false, false_and, if_true, if_false, reduceIte]; omega)) (by first | omega | exact rg_of _ | (simp only [r0M_ne (show (59 : Nat) ≠ 68 by decide) (show (59 : Nat) ≠ 69 by decide), r0M_ne (show (65 : Nat) ≠ 68 by decide) (show (65 : Nat) ≠ 69 by decide), up_app, Nat.reduceEqDiff, Int.reduceEq, and_true, true_and, and_self, and_false, false_and, if_true, if_false, reduceIte]; omega)) (fun h110 => ?_) (fun h110 => ?_)
          · refine f_iconst hZ dX7_tells_123 ?_
            refine f_iastore hZ dX7_tells_124 (by first | rfl | exact hC.t1 | exact hC.t2 | exact hC.t3 | exact hC.t4 | exact hC.t5) (by first | rfl | exact hC.l1 | exact hC.l2 | exact hC.l3 | exact hC.l4 | exact hC.l5) (by first | omega | exact rg_of _ | (simp only [r0M_ne (show (59 : Nat) ≠ 68 by decide) (show (59 : Nat) ≠ 69 by decide), r0M_ne (show (65 : Nat) ≠ 68 by decide) (show (65 : Nat) ≠ 69 by decide), up_app, Nat.reduceEqDiff, Int.reduceEq, and_true, true_and, and_self, and_false, false_and, if_true, if_false, reduceIte]; omega)) (by first | omega | exact rg_of _ | (simp only [r0M_ne (show (59 : Nat) ≠ 68 by decide) (show (59 : Nat) ≠ 69 by decide), r0M_ne (show (65 : Nat) ≠ 68 by decide) (show (65 : Nat) ≠ 69 by decide), up_app, Nat.reduceEqDiff, Int.reduceEq, and_true, true_and, and_self, and_false, false_and, if_true, if_false, reduceIte]; omega)) (by first | omega | exact rg_of _ | (simp only [r0M_ne (show (59 : Nat) ≠ 68 by decide) (show (59 : Nat) ≠ 69 by decide), r0M_ne (show (65 : Nat) ≠ 68 by decide) (show (65 : Nat) ≠ 69 by decide), up_app, Nat.reduceEqDiff, Int.reduceEq, and_true, true_and, and_self, and_false, false_and, if_true, if_false, reduceIte]; omega)) ?_
            refine f_aload_n hZ dX7_tells_125 rfl ?_
            refine gX7_41 hZ dX7_tells_126 ?_
            refine f_iload hZ dX7_tells_129 rfl ?_
            refine f_iconst hZ dX7_tells_131 ?_
            refine f_iastore hZ dX7_tells_132 (by first | rfl | exact hC.t1 | exact hC.t2 | exact hC.t3 | exact hC.t4 | exact hC.t5) (by first | rfl | exact hC.l1 | exact hC.l2 | exact hC.l3 | exact hC.l4 | exact hC.l5) (by first | omega | exact rg_of _ | (simp only [r0M_ne (show (59 : Nat) ≠ 68 by decide) (show (59 : Nat) ≠ 69 by decide), r0M_ne (show (65 : Nat) ≠ 68 by decide) (show (65 : Nat) ≠ 69 by decide), up_app, Nat.reduceEqDiff, Int.reduceEq, and_true, true_and, and_self, and_false, false_and, if_true, if_false, reduceIte]; omega)) (by first | omega | exact rg_of _ | (simp only [r0M_ne (show (59 : Nat) ≠ 68 by decide) (show (59 : Nat) ≠ 69 by decide), r0M_ne (show (65 : Nat) ≠ 68 by decide) (show (65 : Nat) ≠ 69 by decide), up_app, Nat.reduceEqDiff, Int.reduceEq, and_true, true_and, and_self, and_false, false_and, if_true, if_false, reduceIte]; omega)) (by first | omega | exact rg_of _ | (simp only [r0M_ne (show (59 : Nat) ≠ 68 by decide) (show (59 : Nat) ≠ 69 by decide), r0M_ne (show (65 : Nat) ≠ 68 by decide) (show (65 : Nat) ≠ 69 by decide), up_app, Nat.reduceEqDiff, Int.reduceEq, and_true, true_and, and_self, and_false, false_and, if_true, if_false, reduceIte]; omega)) ?_
            refine f_iinc (L' := [_, _, _, _, _, _]) hZ dX7_tells_133 rfl rfl ?_
            refine f_goto (tgt := 82) hZ dX7_tells_136 rfl ?_
            first
              | (have hz : ¬ (i < N 59 12 ∧ bitZ s i = 1) := fun z => by have := z.1; omega
                 rw [r0M_st hi0 (if_neg hz).symm]; exact ih (i + 1) (by omega) (by omega))
              | (have hz : ¬ (i < N 59 12 ∧ bitZ s i = 1) := fun z => h110 z.2
                 rw [r0M_st hi0 (if_neg hz).symm]; exact ih (i + 1) (by omega) (by omega))
              | (have hz : i < N 59 12 ∧ bitZ s i = 1 := ⟨by omega, h110⟩
                 rw [r0M_st hi0 (if_pos hz).symm]; exact ih (i + 1) (by omega) (by omega))
          · refine f_aload_n hZ dX7_tells_113 rfl ?_
            refine gX7_29 hZ dX7_tells_114 ?_
            refine f_iload hZ dX7_tells_117 rfl ?_
            refine f_iaload hZ dX7_tells_119 (by first | rfl | exact hC.t1 | exact hC.t2 | exact hC.t3 | exact hC.t4 | exact hC.t5) (by first | rfl | exact hC.l1 | exact hC.l2 | exact hC.l3 | exact hC.l4 | exact hC.l5) (by first | omega | exact rg_of _ | (simp only [r0M_ne (show (59 : Nat) ≠ 68 by decide) (show (59 : Nat) ≠ 69 by decide), r0M_ne (show (65 : Nat) ≠ 68 by decide) (show (65 : Nat) ≠ 69 by decide), up_app, Nat.reduceEqDiff, Int.reduceEq, and_true, true_and, and_self, and_false, false_and, if_true, if_false, reduceIte]; omega)) (by first | omega | exact rg_of _ | (simp only [r0M_ne (show (59 : Nat) ≠ 68 by decide) (show (59 : Nat) ≠ 69 by decide), r0M_ne (show (65 : Nat) ≠ 68 by decide) (show (65 : Nat) ≠ 69 by decide), up_app, Nat.reduceEqDiff, Int.reduceEq, and_true, true_and, and_self, and_false, false_and, if_true, if_false, reduceIte]; omega)) (fun r119 => ?_)
            try simp only [r0M_ne (show (59 : Nat) ≠ 68 by decide) (show (59 : Nat) ≠ 69 by decide), r0M_ne (show (65 : Nat) ≠ 68 by decide) (show (65 : Nat) ≠ 69 by decide), up_app, Nat.reduceEqDiff, Int.reduceEq, and_true, true_and, and_self, and_false, false_and, if_true, if_false, reduceIte] at r119 ⊢
            refine f_goto (tgt := 124) hZ dX7_tells_120 rfl ?_
            refine f_iastore hZ dX7_tells_124 (by first | rfl | exact hC.t1 | exact hC.t2 | exact hC.t3 | exact hC.t4 | exact hC.t5) (by first | rfl | exact hC.l1 | exact hC.l2 | exact hC.l3 | exact hC.l4 | exact hC.l5) (by first | omega | exact rg_of _ | (simp only [r0M_ne (show (59 : Nat) ≠ 68 by decide) (show (59 : Nat) ≠ 69 by decide), r0M_ne (show (65 : Nat) ≠ 68 by decide) (show (65 : Nat) ≠ 69 by decide), up_app, Nat.reduceEqDiff, Int.reduceEq, and_true, true_and, and_self, and_false, false_and, if_true, if_false, reduceIte]; omega)) (by first | omega | exact rg_of _ | (simp only [r0M_ne (show (59 : Nat) ≠ 68 by decide) (show (59 : Nat) ≠ 69 by decide), r0M_ne (show (65 : Nat) ≠ 68 by decide) (show (65 : Nat) ≠ 69 by decide), up_app, Nat.reduceEqDiff, Int.reduceEq, and_true, true_and, and_self, and_false, false_and, if_true, if_false, reduceIte]; omega)) (by first | omega | exact rg_of _ | (simp only [r0M_ne (show (59 : Nat) ≠ 68 by decide) (show (59 : Nat) ≠ 69 by decide), r0M_ne (show (65 : Nat) ≠ 68 by decide) (show (65 : Nat) ≠ 69 by decide), up_app, Nat.reduceEqDiff, Int.reduceEq, and_true, true_and, and_self, and_false, false_and, if_true, if_false, reduceIte]; omega)) ?_
            refine f_aload_n hZ dX7_tells_125 rfl ?_
            refine gX7_41 hZ dX7_tells_126 ?_
            refine f_iload hZ dX7_tells_129 rfl ?_
            refine f_iconst hZ dX7_tells_131 ?_
            refine f_iastore hZ dX7_tells_132 (by first | rfl | exact hC.t1 | exact hC.t2 | exact hC.t3 | exact hC.t4 | exact hC.t5) (by first | rfl | exact hC.l1 | exact hC.l2 | exact hC.l3 | exact hC.l4 | exact hC.l5) (by first | omega | exact rg_of _ | (simp only [r0M_ne (show (59 : Nat) ≠ 68 by decide) (show (59 : Nat) ≠ 69 by decide), r0M_ne (show (65 : Nat) ≠ 68 by decide) (show (65 : Nat) ≠ 69 by decide), up_app, Nat.reduceEqDiff, Int.reduceEq, and_true, true_and, and_self, and_false, false_and, if_true, if_false, reduceIte]; omega)) (by first | omega | exact rg_of _ | (simp only [r0M_ne (show (59 : Nat) ≠ 68 by decide) (show (59 : Nat) ≠ 69 by decide), r0M_ne (show (65 : Nat) ≠ 68 by decide) (show (65 : Nat) ≠ 69 by decide), up_app, Nat.reduceEqDiff, Int.reduceEq, and_true, true_and, and_self, and_false, false_and, if_true, if_false, reduceIte]; omega)) (by first | omega | exact rg_of _ | (simp only [r0M_ne (show (59 : Nat) ≠ 68 by decide) (show (59 : Nat) ≠ 69 by decide), r0M_ne (show (65 : Nat) ≠ 68 by decide) (show (65 : Nat) ≠ 69 by decide), up_app, Nat.reduceEqDiff, Int.reduceEq, and_true, true_and, and_self, and_false, false_and, if_true, if_false, reduceIte]; omega)) ?_
            refine f_iinc (L' := [_, _, _, _, _, _]) hZ dX7_tells_133 rfl rfl ?_
            refine f_goto (tgt := 82) hZ dX7_tells_136 rfl ?_
            first
              | (have hz : ¬ (i < N 59 12 ∧ bitZ s i = 1) := fun z => by have := z.1; omega
                 rw [r0M_st hi0 (if_neg hz).symm]; exact ih (i + 1) (by omega) (by omega))
              | (have hz : ¬ (i < N 59 12 ∧ bitZ s i = 1) := fun z => h110 z.2
                 rw [r0M_st hi0 (if_neg hz).symm]; exact ih (i + 1) (by omega) (by omega))
              | (have hz : i < N 59 12 ∧ bitZ s i = 1 := ⟨by omega, h110⟩
                 rw [r0M_st hi0 (if_pos hz).symm]; exact ih (i + 1) (by omega) (by omega))
  have k54 : ∀ (N : fM), (∀ k, k ≠ 73 → N k = fdM M s d a x k) → (∀ j, 0 ≤ j → j ≤ 400 → N 73 j = 0) → ∀ (m : Nat) (i : Int), i + m = 321600 → 0 ≤ i → (a = 0 → i = 0) → fG X mX7_tells Z 54 [.ref (xa X 59), .int (iv s), .int (iv d), .int (iv a), .int (iv x), .int (iv i)] [] (zzM N 77 i (-1)) := by
    intro N h1 h2 m
    induction m with
    | zero =>
      intro i him hi0 ha0
      refine f_iload hZ dX7_tells_54 rfl ?_
      refine f_ldc (v := (321600 : Int32)) hZ (321600) dX7_tells_56 (tb_in 811 (by decide +kernel) (by decide +kernel)) (by decide) ?_
      refine f_ige (tgt := 79) hZ dX7_tells_58 rfl (by omega) (by omega) (fun h58 => ?_) (fun h58 => ?_)
      · refine f_iconst hZ dX7_tells_79 ?_
        refine f_istore (L' := [_, _, _, _, _, _]) hZ dX7_tells_80 rfl rfl ?_
        have hb : tbG M s d a x (zzM N 77 i (-1)) := ⟨fun k a b => by rw [zzM_ne b]; exact h1 k a, fun j a b => by rw [zzM_ne (by decide)]; exact h2 j a b, fun q j j0 j1 => zzM_at ⟨j0, by omega⟩⟩
        have hk82 := k82 _ hb 4 0 rfl (Int.le_refl 0)
        rw [r0M_0] at hk82
        exact hk82
      · exfalso; omega
    | succ m ih =>
      intro i him hi0 ha0
      refine f_iload hZ dX7_tells_54 rfl ?_
      refine f_ldc (v := (321600 : Int32)) hZ (321600) dX7_tells_56 (tb_in 811 (by decide +kernel) (by decide +kernel)) (by decide) ?_
      refine f_ige (tgt := 79) hZ dX7_tells_58 rfl (by omega) (by omega) (fun h58 => ?_) (fun h58 => ?_)
      · exfalso; omega
      · refine f_iload_n hZ dX7_tells_61 rfl ?_
        refine f_eq (tgt := 79) hZ dX7_tells_62 rfl (by omega) (fun h62 => ?_) (fun h62 => ?_)
        · refine f_iconst hZ dX7_tells_79 ?_
          refine f_istore (L' := [_, _, _, _, _, _]) hZ dX7_tells_80 rfl rfl ?_
          have hb : tbG M s d a x (zzM N 77 i (-1)) := ⟨fun k a b => by rw [zzM_ne b]; exact h1 k a, fun j a b => by rw [zzM_ne (by decide)]; exact h2 j a b, fun q j j0 j1 => zzM_at ⟨j0, by omega⟩⟩
          have hk82 := k82 _ hb 4 0 rfl (Int.le_refl 0)
          rw [r0M_0] at hk82
          exact hk82
        · refine f_aload_n hZ dX7_tells_65 rfl ?_
          refine gX7_66 hZ dX7_tells_66 ?_
          refine f_iload hZ dX7_tells_69 rfl ?_
          refine f_iconst hZ dX7_tells_71 ?_
          refine f_iastore hZ dX7_tells_72 (by first | rfl | exact hC.t1 | exact hC.t2 | exact hC.t3 | exact hC.t4 | exact hC.t5) (by first | rfl | exact hC.l1 | exact hC.l2 | exact hC.l3 | exact hC.l4 | exact hC.l5) (by omega) (by omega) (by omega) ?_
          refine f_iinc (L' := [_, _, _, _, _, _]) hZ dX7_tells_73 rfl rfl ?_
          refine f_goto (tgt := 54) hZ dX7_tells_76 rfl ?_
          rw [zzM_st hi0]
          exact ih (i + 1) (by omega) (by omega) (fun q => by omega)
  have k29 : ∀ (m : Nat) (i : Int), i + m = 401 → 0 ≤ i → fG X mX7_tells Z 29 [.ref (xa X 59), .int (iv s), .int (iv d), .int (iv a), .int (iv x), .int (iv i)] [] (zzM (fdM M s d a x) 73 i 0) := by
    intro m
    induction m with
    | zero =>
      intro i him hi0
      refine f_iload hZ dX7_tells_29 rfl ?_
      refine f_sipush hZ dX7_tells_31 ?_
      refine f_igt (tgt := 51) hZ dX7_tells_34 rfl (by omega) (by omega) (fun h34 => ?_) (fun h34 => ?_)
      · refine f_iconst hZ dX7_tells_51 ?_
        refine f_istore (L' := [_, _, _, _, _, _]) hZ dX7_tells_52 rfl rfl ?_
        have hk54 := k54 (zzM (fdM M s d a x) 73 i 0) (fun k hk => zzM_ne hk) (fun j a b => zzM_at ⟨a, by omega⟩) 321600 0 rfl (Int.le_refl 0) (fun _ => rfl)
        rw [zzM_0] at hk54
        exact hk54
      · exfalso; omega
    | succ m ih =>
      intro i him hi0
      refine f_iload hZ dX7_tells_29 rfl ?_
      refine f_sipush hZ dX7_tells_31 ?_
      refine f_igt (tgt := 51) hZ dX7_tells_34 rfl (by omega) (by omega) (fun h34 => ?_) (fun h34 => ?_)
      · exfalso; omega
      · refine f_aload_n hZ dX7_tells_37 rfl ?_
        refine gX7_53 hZ dX7_tells_38 ?_
        refine f_iload hZ dX7_tells_41 rfl ?_
        refine f_iconst hZ dX7_tells_43 ?_
        refine f_iastore hZ dX7_tells_44 (by first | rfl | exact hC.t1 | exact hC.t2 | exact hC.t3 | exact hC.t4 | exact hC.t5) (by first | rfl | exact hC.l1 | exact hC.l2 | exact hC.l3 | exact hC.l4 | exact hC.l5) (by omega) (by omega) (by omega) ?_
        refine f_iinc (L' := [_, _, _, _, _, _]) hZ dX7_tells_45 rfl rfl ?_
        refine f_goto (tgt := 29) hZ dX7_tells_48 rfl ?_
        rw [zzM_st hi0]
        exact ih (i + 1) (by omega) (by omega)
  refine f_aload_n hZ dX7_tells_0 rfl ?_
  refine f_iload_n hZ dX7_tells_1 rfl ?_
  refine pX7_286 hZ dX7_tells_2 (by omega) ?_
  refine f_aload_n hZ dX7_tells_5 rfl ?_
  refine f_iload_n hZ dX7_tells_6 rfl ?_
  refine pX7_289 hZ dX7_tells_7 (by omega) ?_
  refine f_aload_n hZ dX7_tells_10 rfl ?_
  refine f_iload_n hZ dX7_tells_11 rfl ?_
  refine pX7_292 hZ dX7_tells_12 (by omega) ?_
  refine f_aload_n hZ dX7_tells_15 rfl ?_
  refine f_iload hZ dX7_tells_16 rfl ?_
  refine pX7_295 hZ dX7_tells_18 (by omega) ?_
  refine f_aload_n hZ dX7_tells_21 rfl ?_
  refine f_iconst hZ dX7_tells_22 ?_
  refine pX7_298 hZ dX7_tells_23 (by omega) ?_
  refine f_iconst hZ dX7_tells_26 ?_
  refine f_istore (L' := [_, _, _, _, _, _]) hZ dX7_tells_27 rfl rfl ?_
  have hk29 := k29 401 0 rfl (Int.le_refl 0)
  rw [zzM_0] at hk29
  exact hk29

