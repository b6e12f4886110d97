/-! the model's choice of one wick's ends: the loop -/
section Ch
variable {lv w e c g : Int} {M N N2 K : fM} {W : Int → pV}
def cst (M : fM) (v : pV) (lv w : Int) : Int → Int := fun j => mprX M v w j (M 68 (4 * lv + w)) (M 70 lv)
def dgN (M : fM) (lv e : Int) : Int := if lv = 0 then 10 * M 59 37 + e else M 59 37
theorem FU_fns (h : FU lv w M N) {v : pV} : mvZ N = mvZ M ∧ mprX N v = mprX M v ∧ unL N lv = unL M lv ∧ N 59 12 = M 59 12 := by
  rw [FU_iff] at h
  obtain ⟨a, b, -, -⟩ := h
  refine ⟨?_, ?_, ?_, b 12 (by omega) (by omega) (by omega)⟩
  · unfold mvZ; rw [a 63 (by decide) (by decide), a 64 (by decide) (by decide), b 36 (by omega) (by omega) (by omega)]
  · funext w l p t; unfold mprX
    rw [b 42 (by omega) (by omega) (by omega), mprZ_eq (b 13 (by omega) (by omega) (by omega)) (a 65 (by decide) (by decide)) (a 67 (by decide) (by decide))]
  · unfold unL; rw [b 12 (by omega) (by omega) (by omega)]
theorem roL_at (h : 0 ≤ w ∧ w < M 59 12) : roL M lv w = M 69 (4 * lv + w) ∧ roP M lv w = M 68 (4 * lv + w) := ⟨if_pos h, if_pos h⟩
theorem lvS_up (hk : lvOk M W lv w) (hw : w < M 59 12) (hc : c = M 72 lv + lc (cst M (W 0) lv w) (M 69 (4 * lv + w)) (M 69 (4 * lv + w) + e)) (hg : g = dgN M lv e) : lvS (upL M lv w (M 69 (4 * lv + w) + e) (M 71 lv + e) c g) lv (w + 1) = sL (mprX M (W 0)) (unL M lv) w (M 69 (4 * lv + w) + e) (lvS M lv w) := by
  have h0 := hk.2.1
  have h4 := hk.1.1.1.2
  have hr := roL_at (lv := lv) ⟨h0.2.1, hw⟩
  have hn := unW_s h0.2.1 hw h4
  unfold sL
  rw [show sl (lvS M lv w) w = M 69 (4 * lv + w) from hr.1, show sp (lvS M lv w) w = M 68 (4 * lv + w) from hr.2]
  refine Prod.ext (funext fun x => ?_) (Prod.ext (funext fun x => ?_) (Prod.ext ?_ (Prod.ext ?_ (Prod.ext ?_ (Prod.ext ?_ ?_)))))
  · show roP (upL M lv w (M 69 (4 * lv + w) + e) (M 71 lv + e) c g) lv x = roP M lv x
    unfold roP
    rw [upL_59 (by decide), upL_c (by decide) (by decide) (by decide) (by decide)]
  · show roL (upL M lv w (M 69 (4 * lv + w) + e) (M 71 lv + e) c g) lv x = updI (roL M lv) w _ x
    unfold roL updI
    rw [upL_59 (by decide), upL_69]
    by_cases hx : x = w
    · rw [hx, if_pos ⟨h0.2.1, hw⟩, if_pos rfl, if_pos rfl]
    · rw [if_neg hx]
      by_cases hq : 0 ≤ x ∧ x < M 59 12
      · rw [if_pos hq, if_neg (by omega)]; exact (if_pos hq).symm
      · rw [if_neg hq]; exact (if_neg hq).symm
  · show upL M lv w (M 69 (4 * lv + w) + e) (M 71 lv + e) c g 70 lv = M 70 lv
    rw [upL_c (by decide) (by decide) (by decide) (by decide)]
  · show upL M lv w (M 69 (4 * lv + w) + e) (M 71 lv + e) c g 71 lv = M 71 lv + (M 69 (4 * lv + w) + e - M 69 (4 * lv + w))
    rw [upL_71, if_pos rfl]; omega
  · show upL M lv w (M 69 (4 * lv + w) + e) (M 71 lv + e) c g 72 lv = M 72 lv + lc (cst M (W 0) lv w) (M 69 (4 * lv + w)) (M 69 (4 * lv + w) + e)
    rw [upL_72, if_pos rfl, hc]
  · show upL M lv w (M 69 (4 * lv + w) + e) (M 71 lv + e) c g 59 37 * dgU (upL M lv w (M 69 (4 * lv + w) + e) (M 71 lv + e) c g) lv (w + 1) = M 59 37 * dgU M lv w + (M 69 (4 * lv + w) + e - M 69 (4 * lv + w)) * unL M lv w
    unfold dgU unL
    rw [upL_37, upL_59 (by decide), hg, show M 69 (4 * lv + w) + e - M 69 (4 * lv + w) = e by omega]
    unfold dgN
    by_cases hl : lv = 0
    · rw [if_pos hl, if_pos hl, if_pos hl, if_pos hl, hn.1, hn.2, Int.add_mul, Int.mul_comm 10 (M 59 37), Int.mul_assoc, Int.mul_comm 10 (unW _ _)]
    · rw [if_neg hl, if_neg hl, if_neg hl, if_neg hl]; simp
  · show evM (upL M lv w (M 69 (4 * lv + w) + e) (M 71 lv + e) c g) lv.toNat = evM M lv.toNat
    exact evM_eq _ (fun j _ => by rw [upL_c (by decide) (by decide) (by decide) (by decide)])
theorem upL_ok (hk : lvOk M W lv w) (hw : w < M 59 12) (he0 : 0 ≤ e) (he : e ≤ if 0 < M 68 (4 * lv + w) then 2 - M 69 (4 * lv + w) else 0) (hc : c = M 72 lv + lc (cst M (W 0) lv w) (M 69 (4 * lv + w)) (M 69 (4 * lv + w) + e)) (hg : g = dgN M lv e) : lvOk (upL M lv w (M 69 (4 * lv + w) + e) (M 71 lv + e) c g) W lv (w + 1) := by
  obtain ⟨⟨s1, s2, s3, s4, s5, s6⟩, k2, k3, k4, k5, k6, k7⟩ := hk
  have hx := k3 w k2.2.1 hw
  have he2 : M 69 (4 * lv + w) + e ≤ 2 := by split at he <;> omega
  have hez : M 68 (4 * lv + w) = 0 → M 69 (4 * lv + w) + e = 0 := fun z => by rw [if_neg (by omega)] at he; have := hx.2.2 z; omega
  have e59 : ∀ k, k ≠ 37 → upL M lv w (M 69 (4 * lv + w) + e) (M 71 lv + e) c g 59 k = M 59 k := fun k h => upL_59 h
  have ec : ∀ k, k ≠ 59 → k ≠ 69 → k ≠ 71 → k ≠ 72 → upL M lv w (M 69 (4 * lv + w) + e) (M 71 lv + e) c g k = M k := fun k a b d f => upL_c a b d f
  have hl := lc_rg (f := cst M (W 0) lv w) (fun j => mprX_rg) hx.2.1.1 (show M 69 (4 * lv + w) ≤ M 69 (4 * lv + w) + e by omega) he2
  refine ⟨⟨s1.eq (fun k _ _ => e59 k (by omega)) (fun k _ _ => ec k (by omega) (by omega) (by omega) (by omega)), s2.eq (e59 4 (by decide)) (ec 60 (by decide) (by decide) (by decide) (by decide)) (ec 61 (by decide) (by decide) (by decide) (by decide)), by rw [e59 36 (by decide)]; exact s3, by rw [e59 44 (by decide)]; exact s4, s5.eq (fun k _ _ => ec k (by omega) (by omega) (by omega) (by omega)), s6.eq (ec 77 (by decide) (by decide) (by decide) (by decide)) (e59 42 (by decide)) (e59 13 (by decide)) (ec 65 (by decide) (by decide) (by decide) (by decide)) (ec 67 (by decide) (by decide) (by decide) (by decide))⟩, ?_, fun x a b => ?_, ?_, ?_, ?_, fun z x a b => ?_⟩
  · rw [e59 12 (by decide)]; omega
  · rw [e59 12 (by decide)] at b
    rw [ec 68 (by decide) (by decide) (by decide) (by decide), ec 65 (by decide) (by decide) (by decide) (by decide), upL_69]
    have hq := k3 x a b
    by_cases hxw : x = w
    · subst hxw
      rw [if_pos rfl]
      exact ⟨hx.1, by omega, hez⟩
    · rw [if_neg (by omega)]; exact hq
  · rw [show roP (upL M lv w (M 69 (4 * lv + w) + e) (M 71 lv + e) c g) lv = roP M lv by
      unfold roP
      rw [e59 12 (by decide), ec 68 (by decide) (by decide) (by decide) (by decide)]]
    exact k4
  · unfold lvTm
    rw [ec 70 (by decide) (by decide) (by decide) (by decide)]
    exact k5
  · obtain ⟨n1, n2, n3, n4⟩ := k6
    unfold lvNum
    rw [upL_71, if_pos rfl, upL_72, if_pos rfl, upL_37, hg]
    unfold dgN
    refine ⟨by omega, by rw [hc]; omega, ?_, fun z => ?_⟩
    · by_cases hl0 : lv = 0
      · rw [if_pos hl0]
        have n4 := n4 hl0
        have hw4 := s1.1.2
        have : dgm w ≤ 222 := by unfold dgm; (repeat' split) <;> omega
        omega
      · rw [if_neg hl0]; exact n3
    · rw [if_pos z]
      have n4 := n4 z
      have hw4 := s1.1.2
      have hw0 := k2.2.1
      have : dgm (w + 1) = 10 * dgm w + 2 := by
        rcases (show w = 0 ∨ w = 1 ∨ w = 2 ∨ w = 3 by omega) with q | q | q | q <;> subst q <;> rfl
      omega
  · rw [e59 12 (by decide)] at b
    rw [upL_69, if_neg (by omega)]
    exact k7 z x (by omega) b
def liL (M : fM) (v : pV) (lv w e : Int) : sN → Prop := fun m => ∃ x, 0 ≤ x ∧ x < e ∧ emW two (mprX M v) (unL M lv) (lvB M v lv) (4 - (w + 1)).toNat (sL (mprX M v) (unL M lv) w (M 69 (4 * lv + w) + x) (lvS M lv w)) m
def LIm (M : fM) (W : Int → pV) (lv w e : Int) (N : fM) : Prop := UpdM M (liL M (W 0) lv w e) N ∧ FU lv w M N ∧ lvStat N W ∧ N 72 lv = M 72 lv + lc (cst M (W 0) lv w) (M 69 (4 * lv + w)) (M 69 (4 * lv + w) + max 0 (e - 1))
theorem LIm.init (hk : lvStat M W) : LIm M W lv w 0 M := ⟨UpdM.id (fun n ⟨x, a, b, _⟩ => by omega) (fun _ _ _ => rfl) rfl, FU_refl, hk, by
  rw [show max 0 ((0 : Int) - 1) = 0 by omega, Int.add_zero, lc_self]; omega⟩
theorem LI_call (hk : lvOk M W lv w) (hw : w < M 59 12) (he0 : 0 ≤ e) (he : e ≤ if 0 < M 68 (4 * lv + w) then 2 - M 69 (4 * lv + w) else 0) (hF : FU lv w M N2) (hs : lvStat N2 W) (h69 : N2 69 (4 * lv + w) = M 69 (4 * lv + w) + e) (h71 : N2 71 lv = M 71 lv + e) (h72 : N2 72 lv = M 72 lv + lc (cst M (W 0) lv w) (M 69 (4 * lv + w)) (M 69 (4 * lv + w) + e)) (h37 : N2 59 37 = dgN M lv e) : lvOk N2 W lv (w + 1) ∧ liS N2 (W 0) lv (w + 1) = emW two (mprX M (W 0)) (unL M lv) (lvB M (W 0) lv) (4 - (w + 1)).toNat (sL (mprX M (W 0)) (unL M lv) w (M 69 (4 * lv + w) + e) (lvS M lv w)) := by
  have hf := FU_fns hF (v := W 0)
  have hF2 : FL lv (upL M lv w (N2 69 (4 * lv + w)) (N2 71 lv) (N2 72 lv) (N2 59 37)) N2 := hF
  rw [h69, h71, h37] at hF2
  have hk2 := upL_ok hk hw he0 he h72 rfl
  refine ⟨hF2.ok hk2 hs.2.2.2.1 hs.2.2.2.2.1 hs.2.2.2.2.2, ?_⟩
  have h4 := hk2.1.1.1.2
  unfold liS lvB
  rw [FL_lvS hF2 h4 hk.2.1.1.1, lvS_up hk hw h72 rfl, hf.1, hf.2.1, hf.2.2.1]
theorem LIm.next (hk : lvOk M W lv w) (hw : w < M 59 12) (he0 : 0 ≤ e) (hL : LIm M W lv w e N) (hF : FU lv w M N2) (hS : liS N2 (W 0) lv (w + 1) = emW two (mprX M (W 0)) (unL M lv) (lvB M (W 0) lv) (4 - (w + 1)).toNat (sL (mprX M (W 0)) (unL M lv) w (M 69 (4 * lv + w) + e) (lvS M lv w))) (h72 : N2 72 lv = M 72 lv + lc (cst M (W 0) lv w) (M 69 (4 * lv + w)) (M 69 (4 * lv + w) + e)) (e73 : ∀ c, 73 ≤ c → c ≤ 76 → N2 c = N c) (e44 : N2 59 44 = N 59 44) (hK : liP N2 W lv (w + 1) K) : LIm M W lv w (e + 1) K := by
  obtain ⟨p1, p2, p3⟩ := hK
  rw [hS] at p1
  have e43 : N2 59 43 = M 59 43 := (FU_iff.mp hF).2.1 43 (by omega) (by omega) (by omega)
  have q1 : UpdM M (liL M (W 0) lv w e) N2 := hL.1.eq (fun _ _ _ => rfl) e73 rfl rfl e44
  refine ⟨UpdM.comp (fun m => ?_) q1 p1 e43, FU_trans hF (FL_FU p2), p3, by rw [(p2.2.2.2 lv (Int.le_refl lv)).2.2, h72, show max 0 (e + 1 - 1) = e by omega]⟩
  constructor
  · rintro ⟨x, a, b, h⟩
    by_cases hx : x < e
    · exact Or.inl ⟨x, a, hx, h⟩
    · have : x = e := by omega
      subst this
      exact Or.inr h
  · rintro (⟨x, a, b, h⟩ | h)
    · exact ⟨x, a, by omega, h⟩
    · exact ⟨e, he0, by omega, h⟩
theorem sL_self {pr : Int → Int → Int → Int → Int} {un : Int → Int} {s : sS} : sL pr un w (sl s w) s = s := by
  unfold sL
  refine Prod.ext rfl (Prod.ext (funext fun x => ?_) (Prod.ext rfl (Prod.ext ?_ (Prod.ext ?_ (Prod.ext ?_ rfl)))))
  · show updI (sl s) w (sl s w) x = sl s x
    unfold updI
    by_cases h : x = w
    · rw [if_pos h, h]
    · rw [if_neg h]
  · show se s + (sl s w - sl s w) = se s
    omega
  · show sc s + lc _ (sl s w) (sl s w) = sc s
    rw [lc_self]; omega
  · show sf s + (sl s w - sl s w) * un w = sf s
    rw [Int.sub_self, Int.zero_mul]; omega
theorem liL_all (hk : lvOk M W lv w) (hw : w < M 59 12) (he : e = (if 0 < M 68 (4 * lv + w) then 2 - M 69 (4 * lv + w) else 0) + 1) (m : sN) : liS M (W 0) lv w m ↔ liL M (W 0) lv w e m := by
  have h0 := hk.2.1
  have h4 := hk.1.1.1.2
  have hr := roL_at (lv := lv) ⟨h0.2.1, hw⟩
  have hx := hk.2.2.1 w h0.2.1 hw
  unfold liS
  rw [emW_at h0.2.1 (by omega), show sl (lvS M lv w) w = M 69 (4 * lv + w) from hr.1, show sp (lvS M lv w) w = M 68 (4 * lv + w) from hr.2]
  unfold liL
  by_cases hp : 0 < M 68 (4 * lv + w)
  · rw [if_pos hp] at he
    constructor
    · rintro (⟨_, x, a, b, h⟩ | ⟨q, _⟩)
      · have b : x ≤ 2 := b
        exact ⟨x - M 69 (4 * lv + w), by omega, by omega, by rw [show M 69 (4 * lv + w) + (x - M 69 (4 * lv + w)) = x by omega]; exact h⟩
      · exact absurd hp q
    · rintro ⟨x, a, b, h⟩
      exact Or.inl ⟨hp, M 69 (4 * lv + w) + x, by omega, by show M 69 (4 * lv + w) + x ≤ 2; omega, h⟩
  · rw [if_neg hp] at he
    have hself : sL (mprX M (W 0)) (unL M lv) w (M 69 (4 * lv + w) + 0) (lvS M lv w) = lvS M lv w := by
      rw [show M 69 (4 * lv + w) + 0 = sl (lvS M lv w) w by rw [show sl (lvS M lv w) w = M 69 (4 * lv + w) from hr.1]; omega]
      exact sL_self
    constructor
    · rintro (⟨q, _⟩ | ⟨_, h⟩)
      · exact absurd q hp
      · exact ⟨0, Int.le_refl 0, by omega, by rw [hself]; exact h⟩
    · rintro ⟨x, a, b, h⟩
      have : x = 0 := by omega
      subst this
      rw [hself] at h
      exact Or.inr ⟨hp, h⟩
theorem LIm.done (hk : lvOk M W lv w) (hw : w < M 59 12) (he : e = (if 0 < M 68 (4 * lv + w) then 2 - M 69 (4 * lv + w) else 0) + 1) (hL : LIm M W lv w e N) : liP M W lv w (up (up (up (up N 69 (4 * lv + w) (M 69 (4 * lv + w))) 72 lv (M 72 lv)) 71 lv (M 71 lv)) 59 37 (M 59 37)) := by
  obtain ⟨q1, q2, q3, q4⟩ := hL
  have hc : ∀ c, c ≠ 59 → c ≠ 69 → c ≠ 71 → c ≠ 72 → (up (up (up (up N 69 (4 * lv + w) (M 69 (4 * lv + w))) 72 lv (M 72 lv)) 71 lv (M 71 lv)) 59 37 (M 59 37)) c = N c := fun c a b d f => by rw [up_ne a, up_ne d, up_ne f, up_ne b]
  have h59 : ∀ k, k ≠ 37 → (up (up (up (up N 69 (4 * lv + w) (M 69 (4 * lv + w))) 72 lv (M 72 lv)) 71 lv (M 71 lv)) 59 37 (M 59 37)) 59 k = N 59 k := fun k h => by rw [up_app, if_neg (fun z => h z.2), up_ne (by decide), up_ne (by decide), up_ne (by decide)]
  have v1 : (up (up (up (up N 69 (4 * lv + w) (M 69 (4 * lv + w))) 72 lv (M 72 lv)) 71 lv (M 71 lv)) 59 37 (M 59 37)) = upL N lv w (M 69 (4 * lv + w)) (M 71 lv) (M 72 lv) (M 59 37) := by
    unfold upL
    funext c i
    simp only [up_app]
    by_cases a : c = 71 <;> by_cases b : c = 72 <;> simp [a, b] <;> omega
  have hF : FU lv w M (up (up (up (up N 69 (4 * lv + w) (M 69 (4 * lv + w))) 72 lv (M 72 lv)) 71 lv (M 71 lv)) 59 37 (M 59 37)) := by
    rw [v1]; exact FU_trans q2 FU_up
  have hFL := FU_fin hF (by rw [v1, upL_69, if_pos rfl]) (by rw [v1, upL_71, if_pos rfl]) (by rw [v1, upL_72, if_pos rfl]) (by rw [v1, upL_37])
  refine ⟨UpdM.congr (fun m => liL_all hk hw he m) (q1.eq (fun _ _ _ => rfl) (fun c a b => hc c (by omega) (by omega) (by omega) (by omega)) rfl rfl (h59 44 (by decide))), hFL, hFL.stat hk.1 (by rw [h59 44 (by decide)]; exact q3.2.2.2.1) (q3.2.2.2.2.1.eq (fun c a b => hc c (by omega) (by omega) (by omega) (by omega))) (q3.2.2.2.2.2.eq (hc 77 (by decide) (by decide) (by decide) (by decide)) (h59 42 (by decide)) (h59 13 (by decide)) (hc 65 (by decide) (by decide) (by decide) (by decide)) (hc 67 (by decide) (by decide) (by decide) (by decide)))⟩
/-- all wicks are chosen -/
theorem liS_end (hk : lvOk M W lv (M 59 12)) (m : sN) : liS M (W 0) lv (M 59 12) m ↔ buS M (W 0) lv m := by
  have h4 := hk.1.1.1
  unfold liS buS
  rw [emW_skip (4 - M 59 12).toNat (M 59 12) 4 (by omega) (by omega) (by omega) (fun w a b => by
    show ¬ 0 < roP M lv w
    unfold roP
    rw [if_neg (by omega)]; omega)]
  exact Iff.rfl
end Ch
