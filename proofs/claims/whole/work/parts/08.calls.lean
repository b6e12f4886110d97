/-! CALLS -/
theorem tbl_in {ws : List Cond} (h : ∀ w ∈ ws, w ∈ tb) : GoodIn tb ws := fun w hw => ⟨h w hw, good_of_word (List.mem_filter.mp (h w hw)).2⟩
theorem wsy_in {z : fY} (h : Cond.code z.1 z.2.1 z.2.2.1 z.2.2.2 ∈ tb) : ∀ w ∈ wsy z, w ∈ tb := fun w hw => by
  rcases List.mem_cons.mp hw with e | e
  · rw [e]; exact h
  · exact e
theorem fB.blind {X : fX} {M : fM} {As : List Value} : FrameBlind (va_Pc As (fB X M)) := fun a U g mk q => by
  obtain ⟨q0, q1, q2, q3, q4⟩ := q
  exact ⟨q0, q1, q2, va_K.moved (u := U) (U := U.calling g mk a) (Vm.Alike.refl U.vm) q3, fS.same (u := U) (U := U.calling g mk a) rfl q4⟩
/-- what is asked of a method that is called: its name, its code in the tables, not too many locals -/
def okY (z : fY) (n : Nat) : Prop := (z.1.cls ≠ "java/lang/invoke/MethodHandle" ∧ z.1.cls ≠ "java/lang/invoke/VarHandle" ∧ (parseMethodDescriptor z.1.desc).map (fun d => d.parameters.length) = some n) ∧ z.2.2.1 ≤ 21 ∧ Cond.code z.1 z.2.1 z.2.2.1 z.2.2.2 ∈ tb
section Calls
variable {X : fX} {y : fY} {d : Nat} {Z : fZ} {pc : Nat} {L st : List Value} {M : fM}
theorem Cx.pre (hZ : Cx X y d Z) {H : Heap} {locs : List Loc} {As : List Value} (hp : va_P (xD X) vwCl (wsOf X M) H) (hs : va_S (zA Z) (zs Z).heap H locs) : ∀ U : State, U.heap = H → (zs Z).WarmedH U.vm → va_Pc As (fB X M) As.toArray U := fun U hU hW => by
  have hA : ∀ q, Aw X q → zA Z q := fun q ⟨c, hc, e⟩ => by rw [e]; exact hZ.A c hc
  refine ⟨rfl, hZ.inj, by rw [hU]; exact hp, va_K.moved hW.alike hZ.K, ?_⟩
  rw [hU]
  exact ((hZ.S.kept (fun a h1 h2 => hs.2.1 a h1 h2)).narrow hA).warm hW
/-- behind a call, whatever kind it was -/
theorem f_run (hZ : Cx X y d Z) {Q : Option Value → fM → Prop} {H : Heap} {locs : List Loc} {ls : Array Slot} {st rest : List Value} {a : Array Value} (hn : L.length = y.2.2.1) (hl : LH y.2.2.1 L ls) (hs : va_S (zA Z) (zs Z).heap H locs)
    (hr : va_Run (zp Z) (xl X) (ze Z) (zR Z) (zs Z) (zm Z) (zg Z) (zb Z) (zt Z) (zc Z) H locs (zk Z) (zn Z) 0 0 (F0 (zm Z) pc ls st) rest (fQ X Q a) (Aw X))
    (k : ∀ r M', Q r M' → fG X y Z (pc + 3) L (r.toList ++ rest) M') : W (zp Z) (xl X) (ze Z) (zR Z) (zs Z) (zm Z) (zg Z) (zb Z) (zt Z) (zc Z) H locs (zk Z) (zn Z) (zQ Z) (F0 (zm Z) pc ls st) := by
  have hA : ∀ q, Aw X q → zA Z q := fun q ⟨c, hc, e⟩ => by rw [e]; exact hZ.A c hc
  intro T hT S
  obtain ⟨v, st₀, t, T', L1, h0, S', hL, e1, e2, ⟨r, M', hv, hq, hm', hp', hz, hk⟩, go⟩ := hr T hT S
  cases hv
  rw [h0] at hz hk
  rw [← e1] at hz hk hp'
  obtain ⟨t2, a1, b1⟩ := k v M' hq hm' hn T'.heap (locs ++ L1) ls hl hp' ⟨Nat.le_trans hs.1 hz, fun q h1 h2 => by rw [hk q (Nat.lt_of_lt_of_le h1 hs.1) (fun z => h2 (hA q z))]; exact hs.2.1 q h1 h2, fun q hq => by
      rcases List.mem_append.mp hq with h | h
      · exact hs.2.2 q h
      · exact hA _ (hL q h)⟩ T' rfl S'
  exact ⟨t2, go t2 a1, b1⟩
theorem f_callV (hZ : Cx X y (d + 1) Z) {z : fY} {c ci ix n N : Nat} {C : String} {T : u_T} {fs : List (Nat × Nat × Nat)} {As rest : List Value} {Q : Option Value → fM → Prop}
    (hd : decode y.2.1 pc = .ok (.invokevirtual ix, 3)) (hC : fC X d z (.ref (xa X c) :: As) M Q) (ok : okY z n) (hw : Cond.methodLink y.1.cls ix z.1 ∈ tb ∧ Cond.instanceMethod z.1 ∈ tb ∧ Cond.selects C z.1 z.1 ∈ tb ∧ Cond.initialized C ∈ tb ∧ z.1.cls = C)
    (hcl : vwCl[ci]? = some (C, T, N)) (hc : decide (c < nC) = true) (hy : lay c = (3, ci, fs)) (hn : As.length = n) (hst : st = As.reverse ++ .ref (xa X c) :: rest) (hr : (rest.map fun v => v.category).sum ≤ 8)
    (k : ∀ r M', Q r M' → fG X y Z (pc + 3) L (r.toList ++ rest) M') : fG X y Z pc L st M := fun hm hnl H locs ls hl hp hs => by
  obtain ⟨r1, r2, r3, r4⟩ := hZ.rm
  obtain ⟨o1, o2, o3⟩ := ok
  obtain ⟨w1, w2, w3, w4, w5⟩ := hw
  refine f_run hZ hnl hl hs (va_runV (As := As) (rest := rest) (nL := y.2.2.1) (n := n) (C := C) (bytes := z.2.1) (maxL := z.2.2.1) (ret := z.2.2.2) ⟨hZ.ex, hZ.by, hZ.ml, hZ.own, hZ.ts⟩ (hC hm)
    (cwV n hZ.ts (tbl_in ?_) rfl rfl rfl ⟨w5, o1⟩ ⟨r1, by show 8 + (z.2.2.1 + 11) + 40 * d ≤ _; omega⟩)
    ⟨fB.blind, va_recv hZ.K hp (ci := ci) (q0 := c) hcl (by rw [ws_at (of_decide_eq_true hc), ce_obj hy]), hZ.pre hp hs⟩ rfl hn hl.1 hst (lv_room hr) hd ⟨r3, r4⟩) k
  intro w h
  unfold wsV at h
  rcases List.mem_append.mp h with h | h
  · simp only [List.mem_cons, List.not_mem_nil, or_false] at h
    rcases h with rfl | rfl | rfl | rfl
    · exact w1
    · exact w2
    · exact w3
    · exact w4
  · exact wsy_in o3 w h
theorem f_callS (hZ : Cx X y (d + 1) Z) {z : fY} {ix n : Nat} {As rest : List Value} {Q : Option Value → fM → Prop}
    (hd : decode y.2.1 pc = .ok (.invokestatic ix, 3)) (hC : fC X d z As M Q) (ok : okY z n) (hw : Cond.methodLink y.1.cls ix z.1 ∈ tb ∧ Cond.static z.1 ∈ tb ∧ Cond.initialized z.1.cls ∈ tb)
    (hn : As.length = n) (hst : st = As.reverse ++ rest) (hr : (rest.map fun v => v.category).sum ≤ 8)
    (k : ∀ r M', Q r M' → fG X y Z (pc + 3) L (r.toList ++ rest) M') : fG X y Z pc L st M := fun hm hnl H locs ls hl hp hs => by
  obtain ⟨r1, r2, r3, r4⟩ := hZ.rm
  obtain ⟨o1, o2, o3⟩ := ok
  obtain ⟨w1, w2, w3⟩ := hw
  refine f_run hZ hnl hl hs (va_runS (As := As) (rest := rest) (nL := y.2.2.1) (n := n) (bytes := z.2.1) (maxL := z.2.2.1) (ret := z.2.2.2) ⟨hZ.ex, hZ.by, hZ.ml, hZ.own, hZ.ts⟩ (hC hm)
    (va_cwS n hZ.ts (tbl_in ?_) rfl rfl rfl o1 ⟨r1, by show 8 + (z.2.2.1 + 11) + 40 * d ≤ _; omega⟩)
    ⟨fB.blind, hZ.pre hp hs⟩ rfl hn hl.1 hst (lv_room hr) hd ⟨r3, r4⟩) k
  intro w h
  unfold va_wsS at h
  rcases List.mem_append.mp h with h | h
  · simp only [List.mem_cons, List.not_mem_nil, or_false] at h
    rcases h with rfl | rfl | rfl
    · exact w1
    · exact w2
    · exact w3
  · exact wsy_in o3 w h
theorem f_cvI (hZ : Cx X y (d + 1) Z) {z : fY} {c ci ix n N : Nat} {C : String} {T : u_T} {fs : List (Nat × Nat × Nat)} {As rest : List Value} {P : Int → fM → Prop}
    (hd : decode y.2.1 pc = .ok (.invokevirtual ix, 3)) (ok : okY z n) (hw : Cond.methodLink y.1.cls ix z.1 ∈ tb ∧ Cond.instanceMethod z.1 ∈ tb ∧ Cond.selects C z.1 z.1 ∈ tb ∧ Cond.initialized C ∈ tb ∧ z.1.cls = C)
    (hcl : vwCl[ci]? = some (C, T, N)) (hc : decide (c < nC) = true) (hy : lay c = (3, ci, fs)) (hn : As.length = n) (hst : st = As.reverse ++ .ref (xa X c) :: rest) (hr : (rest.map fun v => v.category).sum ≤ 8) (hC : fC X d z (.ref (xa X c) :: As) M (QI P))
    (k : ∀ a M', rg a → P a M' → fG X y Z (pc + 3) L (.int (iv a) :: rest) M') : fG X y Z pc L st M := f_callV hZ hd hC ok hw hcl hc hy hn hst hr (fun r M' ⟨a, e, h1, h2⟩ => by rw [e]; exact k a M' h1 h2)
theorem f_cvJ (hZ : Cx X y (d + 1) Z) {z : fY} {c ci ix n N : Nat} {C : String} {T : u_T} {fs : List (Nat × Nat × Nat)} {As rest : List Value} {P : Int → fM → Prop}
    (hd : decode y.2.1 pc = .ok (.invokevirtual ix, 3)) (ok : okY z n) (hw : Cond.methodLink y.1.cls ix z.1 ∈ tb ∧ Cond.instanceMethod z.1 ∈ tb ∧ Cond.selects C z.1 z.1 ∈ tb ∧ Cond.initialized C ∈ tb ∧ z.1.cls = C)
    (hcl : vwCl[ci]? = some (C, T, N)) (hc : decide (c < nC) = true) (hy : lay c = (3, ci, fs)) (hn : As.length = n) (hst : st = As.reverse ++ .ref (xa X c) :: rest) (hr : (rest.map fun v => v.category).sum ≤ 8) (hC : fC X d z (.ref (xa X c) :: As) M (QJ P))
    (k : ∀ a M', rj a → P a M' → fG X y Z (pc + 3) L (.long (jv a) :: rest) M') : fG X y Z pc L st M := f_callV hZ hd hC ok hw hcl hc hy hn hst hr (fun r M' ⟨a, e, h1, h2⟩ => by rw [e]; exact k a M' h1 h2)
theorem f_cvV (hZ : Cx X y (d + 1) Z) {z : fY} {c ci ix n N : Nat} {C : String} {T : u_T} {fs : List (Nat × Nat × Nat)} {As rest : List Value} {P : fM → Prop}
    (hd : decode y.2.1 pc = .ok (.invokevirtual ix, 3)) (ok : okY z n) (hw : Cond.methodLink y.1.cls ix z.1 ∈ tb ∧ Cond.instanceMethod z.1 ∈ tb ∧ Cond.selects C z.1 z.1 ∈ tb ∧ Cond.initialized C ∈ tb ∧ z.1.cls = C)
    (hcl : vwCl[ci]? = some (C, T, N)) (hc : decide (c < nC) = true) (hy : lay c = (3, ci, fs)) (hn : As.length = n) (hst : st = As.reverse ++ .ref (xa X c) :: rest) (hr : (rest.map fun v => v.category).sum ≤ 8) (hC : fC X d z (.ref (xa X c) :: As) M (QV P))
    (k : ∀ M', P M' → fG X y Z (pc + 3) L rest M') : fG X y Z pc L st M := f_callV hZ hd hC ok hw hcl hc hy hn hst hr (fun r M' ⟨e, h2⟩ => by rw [e]; exact k M' h2)
theorem f_csI (hZ : Cx X y (d + 1) Z) {z : fY} {ix n : Nat} {As rest : List Value} {P : Int → fM → Prop}
    (hd : decode y.2.1 pc = .ok (.invokestatic ix, 3)) (ok : okY z n) (hw : Cond.methodLink y.1.cls ix z.1 ∈ tb ∧ Cond.static z.1 ∈ tb ∧ Cond.initialized z.1.cls ∈ tb)
    (hn : As.length = n) (hst : st = As.reverse ++ rest) (hr : (rest.map fun v => v.category).sum ≤ 8) (hC : fC X d z As M (QI P))
    (k : ∀ a M', rg a → P a M' → fG X y Z (pc + 3) L (.int (iv a) :: rest) M') : fG X y Z pc L st M := f_callS hZ hd hC ok hw hn hst hr (fun r M' ⟨a, e, h1, h2⟩ => by rw [e]; exact k a M' h1 h2)
theorem f_csV (hZ : Cx X y (d + 1) Z) {z : fY} {ix n : Nat} {As rest : List Value} {P : fM → Prop}
    (hd : decode y.2.1 pc = .ok (.invokestatic ix, 3)) (ok : okY z n) (hw : Cond.methodLink y.1.cls ix z.1 ∈ tb ∧ Cond.static z.1 ∈ tb ∧ Cond.initialized z.1.cls ∈ tb)
    (hn : As.length = n) (hst : st = As.reverse ++ rest) (hr : (rest.map fun v => v.category).sum ≤ 8) (hC : fC X d z As M (QV P))
    (k : ∀ M', P M' → fG X y Z (pc + 3) L rest M') : fG X y Z pc L st M := f_callS hZ hd hC ok hw hn hst hr (fun r M' ⟨e, h2⟩ => by rw [e]; exact k M' h2)
/-- Math.max, Math.min -/
theorem f_max (hZ : Cx X y (d + 1) Z) {ix : Nat} {a b : Int} (hd : decode y.2.1 pc = .ok (.invokestatic ix, 3)) (hw : Cond.methodLink y.1.cls ix Lib.Math.max.name ∈ tb) (ha : rg a) (hb : rg b) (hr : (st.map fun v => v.category).sum ≤ 8) (k : fG X y Z (pc + 3) L (.int (iv (max a b)) :: st) M) : fG X y Z pc L (.int (iv b) :: .int (iv a) :: st) M := fun hm hn H locs ls hl hp hs => by
  obtain ⟨r1, r2, r3, r4⟩ := hZ.rm
  refine va_mmax hZ.ex hZ.by (hZ.ml.trans hl.1.symm) hZ.own (hZ.ts _ hw) (hZ.ts _ (by decide +kernel)) (hZ.ts _ (by decide +kernel)) (hZ.ts _ (by decide +kernel)) (by omega) (by omega) r3 r4 hd ?_
  have e : (if iv a < iv b then iv b else iv a) = iv (max a b) := by
    by_cases h : a < b
    · rw [if_pos ((iv_lt ha hb).mpr h), Int.max_eq_right (by omega)]
    · rw [if_neg (fun q => h ((iv_lt ha hb).mp q)), Int.max_eq_left (by omega)]
  rw [e]
  exact k hm hn H locs ls hl hp hs
theorem f_min (hZ : Cx X y (d + 1) Z) {ix : Nat} {a b : Int} (hd : decode y.2.1 pc = .ok (.invokestatic ix, 3)) (hw : Cond.methodLink y.1.cls ix Lib.Math.min.name ∈ tb) (ha : rg a) (hb : rg b) (hr : (st.map fun v => v.category).sum ≤ 8) (k : fG X y Z (pc + 3) L (.int (iv (min a b)) :: st) M) : fG X y Z pc L (.int (iv b) :: .int (iv a) :: st) M := fun hm hn H locs ls hl hp hs => by
  obtain ⟨r1, r2, r3, r4⟩ := hZ.rm
  refine va_mmin hZ.ex hZ.by (hZ.ml.trans hl.1.symm) hZ.own (hZ.ts _ hw) (hZ.ts _ (by decide +kernel)) (hZ.ts _ (by decide +kernel)) (hZ.ts _ (by decide +kernel)) (by omega) (by omega) r3 r4 hd ?_
  have e : (if iv b < iv a then iv b else iv a) = iv (min a b) := by
    by_cases h : b < a
    · rw [if_pos ((iv_lt hb ha).mpr h), Int.min_eq_right (by omega)]
    · rw [if_neg (fun q => h ((iv_lt hb ha).mp q)), Int.min_eq_left (by omega)]
  rw [e]
  exact k hm hn H locs ls hl hp hs
/-- System.arraycopy of ints, from one array to another or within one -/
def cpM (M : fM) (c1 c2 : Nat) (sp dp n : Int) : fM := fun c i => if c = c2 ∧ dp ≤ i ∧ i < dp + n then M c1 (sp + (i - dp)) else M c i
theorem Can_cp {M : fM} (h : Can M) {c1 c2 : Nat} {sp dp n : Int} : Can (cpM M c1 c2 sp dp n) := fun c i => by
  unfold cpM
  split
  · exact h _ _
  · exact h _ _
theorem f_copy (hZ : Cx X y (d + 1) Z) {ix c1 c2 n1 n2 : Nat} {f1 f2 : List (Nat × Nat × Nat)} {sp dp n : Int} (hd : decode y.2.1 pc = .ok (.invokestatic ix, 3)) (hw : Cond.methodLink y.1.cls ix arraycopyName ∈ tb) (hc1 : decide (c1 < nC) = true) (hc2 : decide (c2 < nC) = true) (hy1 : lay c1 = (0, n1, f1)) (hy2 : lay c2 = (0, n2, f2))
    (h1 : 0 ≤ sp) (h2 : 0 ≤ dp) (h3 : 0 ≤ n) (h4 : sp + n ≤ n1) (h5 : dp + n ≤ n2) (hr : (st.map fun v => v.category).sum ≤ 8) (k : fG X y Z (pc + 3) L st (cpM M c1 c2 sp dp n)) : fG X y Z pc L (.int (iv n) :: .int (iv dp) :: .ref (xa X c2) :: .int (iv sp) :: .ref (xa X c1) :: st) M := fun hm hn H locs ls hl hp hs => by
  obtain ⟨r1, r2, r3, r4⟩ := hZ.rm
  have hc1 := of_decide_eq_true hc1
  have hc2 := of_decide_eq_true hc2
  have hN1 := lay_n hc1 hy1
  have hN2 := lay_n hc2 hy2
  have nn : ∀ {a : Int}, 0 ≤ a → a < 2147483648 → ¬ iv a < 0 := fun {a} h0 h1 q => by rw [← iv_0, iv_lt ⟨by omega, by omega⟩ rg_0] at q; omega
  refine va_copyi hZ.ex hZ.by (hZ.ml.trans hl.1.symm) hZ.own (hZ.ts _ hw) (hZ.ts _ (by decide +kernel)) (hZ.ts _ (by decide +kernel)) (hZ.ts _ (by decide +kernel)) hZ.K hp hZ.D hs c1 c2 0 0 (ws_atI hc1 hy1) (ws_atI hc2 hy2) (ty := .int) rfl rfl rfl (nn h1 (by omega)) (nn h2 (by omega)) (nn h3 (by omega))
    (by rw [iv_clamp h1 ⟨by omega, by omega⟩, iv_clamp h3 ⟨by omega, by omega⟩]; omega) (by rw [iv_clamp h2 ⟨by omega, by omega⟩, iv_clamp h3 ⟨by omega, by omega⟩]; omega) (fun i _ => rfl) (by omega) (by simp [nativeFrameWords]; omega) hd (fun H1 locs1 hp1 _ hs1 => ?_)
  rw [ws_set (M' := cpM M c1 c2 sp dp n) hc2 (fun k hk => by funext i; unfold cpM; rw [if_neg (fun q => hk q.1)]) (by
    rw [ce_int hy2]
    refine congrArg (fun f => Sum.inl (xI X, n2, Sum.inl f)) ?_
    funext j
    unfold va_cpy cpM
    rw [iv_clamp h1 ⟨by omega, by omega⟩, iv_clamp h2 ⟨by omega, by omega⟩, iv_clamp h3 ⟨by omega, by omega⟩]
    by_cases h : dp.toNat ≤ j ∧ j < dp.toNat + n.toNat
    · rw [if_pos h, if_pos ⟨rfl, by omega, by omega⟩]
      show _ = iv (M c1 ((sp.toNat + (j - dp.toNat) : Nat) : Int))
      rw [show ((sp.toNat + (j - dp.toNat) : Nat) : Int) = sp + ((j : Int) - dp) by omega]
    · rw [if_neg h, if_neg (fun q => h ⟨by omega, by omega⟩)])] at hp1
  exact k (Can_cp hm) hn H1 locs1 ls hl hp1 hs1
end Calls
