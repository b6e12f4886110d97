/-! growing world: rows of arrays, calls, ends -/
theorem mn_outer (c : ClassId) (N h0 : Nat) : ∀ i : Nat, Jvm.Free.Multi.outerC c N h0 i = arrV c N (fun j => va_rf (if j < i then some (h0 + 1 + j) else none))
  | 0 => by
    show ({ cls := c, slots := Array.replicate N .null, vm := .none } : Cell) = _
    rw [arrV_new]
    refine congrArg (arrV c N) (funext fun j => ?_)
    simp [va_rf]
  | i + 1 => by
    show (Jvm.Free.Multi.outerC c N h0 i).setSlot i (.ref (h0 + 1 + i)) = _
    rw [mn_outer c N h0 i, arrV_store]
    refine congrArg (arrV c N) (funext fun j => ?_)
    by_cases e : j = i
    · subst e
      simp [updV, va_rf]
    · by_cases h : j < i
      · simp [updV, e, h, Nat.lt_succ_of_lt h]
      · simp [updV, e, h, show ¬ j < i + 1 by omega]
section GM
variable {X : fX} {bs : Nat} {y : fY} {d mc ms : Nat} {Z : fZ} {pc : Nat} {L L' st : List Value} {Ls : gL} {M : fM} {k n : Nat}
theorem gw_app {qs : gL} {z : Nat} {H H1 : Heap} (hz : Ls.length = z) (hp : va_P (xD X) vwCl (gW X Ls M) H) (o1 : ∀ a : Nat, a < H.size → H1[a]? = H[a]?) (hq : ∀ j q, qs[j]? = some q → va_at (xD X) vwCl (xa X (z + j), gce X (M (z + j)) q) H1) : va_P (xD X) vwCl (gW X (Ls ++ qs) M) H1 := by
  intro c x hx
  have hc := gw_lt hx
  rw [List.length_append] at hc
  by_cases h : c < Ls.length
  · have e := gw_at (M := M) (X := X) (List.getElem?_eq_getElem h)
    have e2 : (gW X (Ls ++ qs) M)[c]? = some (xa X c, gce X (M c) Ls[c]) := gw_at (by rw [List.getElem?_append_left h]; exact List.getElem?_eq_getElem h)
    cases e2.symm.trans hx
    exact (hp c _ e).kept (o1 _ (hp c _ e).lt)
  · have h9 : c - Ls.length < qs.length := by omega
    have e1 : qs[c - Ls.length]? = some qs[c - Ls.length] := List.getElem?_eq_getElem h9
    have e2 : (gW X (Ls ++ qs) M)[c]? = some (xa X c, gce X (M c) qs[c - Ls.length]) := gw_at (by rw [List.getElem?_append_right (by omega)]; exact e1)
    cases e2.symm.trans hx
    have := hq _ _ e1
    rw [← hz, show Ls.length + (c - Ls.length) = c by omega] at this
    exact this
theorem g_mna (hZ : Gx X bs y d mc ms Z) {ix N K z : Nat} {a b : Int} (ha : a = (N : Int)) (hb : b = (K : Int)) (hd : decode y.2.1 pc = .ok (.multianewarray ix 2, 4)) (hcw : Cond.classLink y.1.cls ix "[[I" ∈ tb) (hk : k + 1 + N ≤ mc) (hn1 : n + N + N * K ≤ ms) (hsm : N * 4 ≤ 536870912 ∧ K * 4 ≤ 536870912) (hz0 : Ls.length = z) (h0 : ∀ j, j ≤ N → ∀ i, M (z + j) i = 0) (kk : gG X y Z (pc + 4) L (.ref (xa X z) :: st) (Ls ++ (2, N, [(z + 1, 0, 0)]) :: List.replicate N (0, K, [])) M (k + 1 + N) (n + N + N * K)) : gG X y Z pc L (.int (iv b) :: .int (iv a) :: st) Ls M k n := fun hn H locs ls hl hz hp hs => by
  obtain ⟨r1, r2, r3, r4⟩ := hZ.rm
  obtain ⟨s1, s2⟩ := hsm
  subst ha
  subst hb
  have hx := hZ.x
  rw [hz0] at hz
  have eN : (iv (N : Int)).toNatClampNeg = N := by rw [iv_clamp (by omega) ⟨by omega, by omega⟩]; omega
  have eK : (iv (K : Int)).toNatClampNeg = K := by rw [iv_clamp (by omega) ⟨by omega, by omega⟩]; omega
  have nn : ∀ {q : Nat}, q * 4 ≤ 536870912 → ¬ iv (q : Int) < 0 := fun {q} h1 e => by rw [← iv_0, iv_lt ⟨by omega, by omega⟩ rg_0] at e; omega
  intro T hT Xs
  have hsl : n + ((iv (N : Int)).toNatClampNeg + (iv (N : Int)).toNatClampNeg * (iv (K : Int)).toNatClampNeg) ≤ (zR Z).slots := by rw [eN, eK]; omega
  obtain ⟨vm₁, cA, comp, -, fA, fC, hO, -, X', step⟩ := Xs.multianewarray2F hZ.ex hZ.own (ty := .int) (hZ.ts _ hcw) hZ.N.2.2.use (hZ.ts _ (tb_in 137 (by decide +kernel) (by decide +kernel))) (g := F0 (zm Z) pc ls (.int (iv (K : Int)) :: .int (iv (N : Int)) :: st)) rfl (by rw [hZ.by]; exact hd) rfl (nn s1) (nn s2) (by rw [eN]; exact s1) (by rw [eK]; exact s2) (by rw [eK]; omega) rfl rfl (by rw [eN]; omega) hsl
  rw [eN, eK] at X' step
  have hcA : cA = xA X := Option.some.inj (fA.symm.trans (hZ.K.2 2 _ rfl).2)
  have hcI : comp = xI X := Option.some.inj (fC.symm.trans (hZ.K.2 0 _ rfl).2)
  subst hcA
  subst hcI
  generalize hF : Jvm.Free.Multi.fill (T.setVm vm₁) (xA X) (xI X) N K (defaultValue .int) N = F at X' step
  have hTh : (T.setVm vm₁).heap = H := hT
  obtain ⟨f1, f2, -, -⟩ := Jvm.Free.Multi.fill_facts (T.setVm vm₁) (xA X) (xI X) N K (defaultValue .int) N
  rw [hF, hTh] at f1 f2
  have hold : ∀ x : Nat, x < H.size → F.heap[x]? = H[x]? := fun x hx => by
    have := Jvm.Free.Multi.fill_old (T.setVm vm₁) (xA X) (xI X) N K (defaultValue .int) (a := x) (by rw [hTh]; exact hx) N
    rw [hF, hTh] at this
    exact this
  have hrow : ∀ j : Nat, j < N → F.heap[H.size + 1 + j]? = some (Jvm.Free.Multi.innerC (xI X) K (defaultValue .int)) := fun j hj => by
    have := Jvm.Free.Multi.fill_inner (T.setVm vm₁) (xA X) (xI X) N K (defaultValue .int) N j hj
    rw [hF, hTh] at this
    exact this
  have hP : va_P (xD X) vwCl (gW X (Ls ++ (2, N, [(z + 1, 0, 0)]) :: List.replicate N (0, K, [])) M) F.heap := by
    refine gw_app hz0 hp hold (fun j q hq => ?_)
    cases j with
    | zero =>
      cases hq
      show F.heap[xa X z]? = some (vp_cell (xA X) (N, .inr (.inr (.inr (.inr (fun j => if j < N then some (xa X (z + 1 + j)) else none))))))
      rw [← hz, f2, mn_outer, vp_cell_q]
      refine congrArg (fun f => some (arrV (xA X) N f)) (funext fun j => ?_)
      by_cases hj : j < N
      · rw [if_pos hj, if_pos hj, hz, hx, hx]
        congr 2
        omega
      · rw [if_neg hj, if_neg hj]
    | succ j =>
      have hjN : j < N := by
        have h9 := (List.getElem?_eq_some_iff.mp hq).1
        rw [List.length_cons, List.length_replicate] at h9
        omega
      rw [List.getElem?_cons_succ, List.getElem?_replicate, if_pos hjN] at hq
      cases hq
      show F.heap[xa X (z + (j + 1))]? = some (vp_cell (xI X) (K, .inl (fun i : Nat => iv (M (z + (j + 1)) i))))
      rw [show xa X (z + (j + 1)) = H.size + 1 + j by rw [hz, hx, hx]; omega, hrow j hjN, vp_cell_i]
      show some ({ cls := xI X, slots := Array.replicate K (defaultValue .int), vm := .none } : Cell) = _
      rw [arrV_new]
      refine congrArg (fun f => some (arrV (xI X) K f)) (funext fun i => ?_)
      rw [h0 (j + 1) (by omega)]
      rfl
  have hsz : F.heap.size = xa X (Ls ++ (2, N, [(z + 1, 0, 0)]) :: List.replicate N (0, K, [])).length := by
    rw [f1, hz, List.length_append, List.length_cons, List.length_replicate, hz0, hx, hx]
    omega
  obtain ⟨t, a1, b1⟩ := kk hn F.heap locs ls hl hsz hP ⟨by rw [f1]; have := hs.1; omega, fun x h1 h2 => (hold x (Nat.lt_of_lt_of_le h1 hs.1)).trans (hs.2.1 x h1 h2), hs.2.2⟩ F rfl X'
  refine ⟨t, step t ?_, b1⟩
  have e : T.heap.size = xa X z := by rw [hT]; exact hz
  rw [e]
  exact a1
/-! calls of constructors -/
theorem Gx.pre (hZ : Gx X bs y d mc ms Z) {H : Heap} {locs : List Loc} {As : List Value} (hz : H.size = xa X Ls.length) (hp : va_P (xD X) vwCl (gW X Ls M) H) (hs : va_S (zA Z) (zs Z).heap H locs) : ∀ U : State, U.heap = H → (zs Z).WarmedH U.vm → va_Pc As (gB X bs Ls M) As.toArray U := fun U hU hW => by
  refine ⟨rfl, by rw [hU]; exact hp, by rw [hU]; exact hz, va_K.moved hW.alike hZ.K, gN.warm hW hZ.N, ?_⟩
  rw [hU]
  exact (hZ.S.kept (fun a h1 h2 => hs.2.1 a h1 (by rw [hZ.eA]; exact h2))).warm hW
theorem g_run (hZ : Gx X bs y d mc ms Z) {Ls' : gL} {M' : fM} {mc' ms' : Nat} {H : Heap} {locs : List Loc} {ls : Array Slot} {rest : List Value} {a : Array Value} (hn : L.length = y.2.2.1) (hl : LH y.2.2.1 L ls) (hs : va_S (zA Z) (zs Z).heap H locs)
    (hr : va_Run (zp Z) (xl X) (ze Z) (zR Z) (zs Z) (zm Z) (zg Z) (zb Z) (zt Z) (zc Z) H locs k n mc' ms' (F0 (zm Z) pc ls st) rest (gQ X bs Ls' M' a) (fun q => bs ≤ q))
    (kk : gG X y Z (pc + 3) L rest Ls' M' (k + mc') (n + ms')) : W (zp Z) (xl X) (ze Z) (zR Z) (zs Z) (zm Z) (zg Z) (zb Z) (zt Z) (zc Z) H locs k n (zQ Z) (F0 (zm Z) pc ls st) := by
  intro T hT S
  obtain ⟨v, st₀, t, T', L1, h0, S', hL, e1, e2, ⟨hv, hp', hz', hz, hk⟩, go⟩ := hr T hT S
  cases hv
  rw [h0] at hz hk
  rw [← e1] at hz hk hp' hz'
  obtain ⟨t2, a1, b1⟩ := kk hn T'.heap (locs ++ L1) ls hl hz' hp' ⟨Nat.le_trans hs.1 hz, fun q h1 h2 => by rw [hk q (Nat.lt_of_lt_of_le h1 hs.1) (fun z => h2 (hZ.A q z))]; exact hs.2.1 q h1 h2, fun q hq => by
      rcases List.mem_append.mp hq with h | h
      · exact hs.2.2 q h
      · exact hZ.A _ (hL q h)⟩ T' rfl S'
  exact ⟨t2, go t2 a1, b1⟩
theorem g_callI (hZ : Gx X bs y (d + 1) mc ms Z) {z : fY} {ix na c mc' ms' : Nat} {As rest : List Value} {Ls' : gL} {M' : fM} (hd : decode y.2.1 pc = .ok (.invokespecial ix, 3)) (hC : gC X bs d z (.ref (xa X c) :: As) Ls M (gQ X bs Ls' M') mc' ms') (ok : okY z na) (hi : z.1.name = "<init>" ∧ z.2.2.2 = none) (hw : Cond.methodLink y.1.cls ix z.1 ∈ tb ∧ Cond.instanceMethod z.1 ∈ tb ∧ Cond.initialized z.1.cls ∈ tb)
    (hna : As.length = na) (hst : st = As.reverse ++ .ref (xa X c) :: rest) (hr : (rest.map fun v => v.category).sum ≤ 8) (hk : k + mc' ≤ mc) (hn1 : n + ms' ≤ ms) (kk : gG X y Z (pc + 3) L rest Ls' M' (k + mc') (n + ms')) : gG X y Z pc L st Ls M k n := fun hn H locs ls hl hz hp hs => by
  obtain ⟨r1, r2, r3, r4⟩ := hZ.rm
  obtain ⟨o1, o2, o3⟩ := ok
  obtain ⟨w1, w2, w3⟩ := hw
  refine g_run hZ hn hl hs (va_runI (As := As) (rest := rest) (nL := y.2.2.1) (n := na) (bytes := z.2.1) (maxL := z.2.2.1) ⟨hZ.ex, hZ.by, hZ.ml, hZ.own, hZ.ts⟩ hC
    (cwI (ws' := tb) na hZ.ts (tbl_in (wsy_in o3)) (by unfold wsy; rw [hi.2]) rfl rfl (hZ.ts _ w3) (hZ.ts _ w1) (hZ.ts _ w2) hi.1 o1 ⟨r1, by show 8 + (z.2.2.1 + 11) + 40 * d ≤ _; omega⟩)
    ⟨gB.blind, hZ.pre hz hp hs⟩ rfl hna hl.1 hst (lv_room hr) hd ⟨by omega, by omega⟩) kk
theorem g_callN (hZ : Gx X bs y (d + 1) mc ms Z) {z : fY} {ix na c mc' ms' : Nat} {host : String} {As rest : List Value} {Ls' : gL} {M' : fM} (hd : decode y.2.1 pc = .ok (.invokespecial ix, 3)) (hC : gC X bs d z (.ref (xa X c) :: As) Ls M (gQ X bs Ls' M') mc' ms') (ok : okY z na) (hi : z.1.name = "<init>" ∧ z.2.2.2 = none) (hw : va_Nw (.methodLinkNest y.1.cls ix z.1 host) (zs Z) ∧ Cond.instanceMethod z.1 ∈ tb ∧ Cond.initialized z.1.cls ∈ tb)
    (hna : As.length = na) (hst : st = As.reverse ++ .ref (xa X c) :: rest) (hr : (rest.map fun v => v.category).sum ≤ 8) (hk : k + mc' ≤ mc) (hn1 : n + ms' ≤ ms) (kk : gG X y Z (pc + 3) L rest Ls' M' (k + mc') (n + ms')) : gG X y Z pc L st Ls M k n := fun hn H locs ls hl hz hp hs => by
  obtain ⟨r1, r2, r3, r4⟩ := hZ.rm
  obtain ⟨o1, o2, o3⟩ := ok
  obtain ⟨w1, w2, w3⟩ := hw
  refine g_run hZ hn hl hs (va_runIN (As := As) (rest := rest) (nL := y.2.2.1) (n := na) (bytes := z.2.1) (maxL := z.2.2.1) ⟨hZ.ex, hZ.by, hZ.ml, hZ.own, hZ.ts⟩ hC
    ⟨va_cnB (ws' := tb) na hZ.ts (tbl_in (wsy_in o3)) (by unfold wsy; rw [hi.2]) rfl rfl w1 (hZ.ts _ w3) o1 ⟨r1, by show 8 + (z.2.2.1 + 11) + 40 * d ≤ _; omega⟩, hi.1, hZ.ts _ w2⟩
    ⟨gB.blind, hZ.pre hz hp hs⟩ rfl hna hl.1 hst (lv_room hr) hd ⟨by omega, by omega⟩) kk
theorem g_ret (hZ : Gx X bs y d mc ms Z) {Ls' : gL} {M' : fM} (hR : Gr bs y (gQ X bs Ls' M') mc ms Z) (hd : decode y.2.1 pc = .ok (.return_, 1)) (hty : y.2.2.2 = none) (hk : k ≤ mc) (hn1 : n ≤ ms) (hL : Ls = Ls') (hM : M = M') : gG X y Z pc L [] Ls M k n := fun hn H locs ls hl hz hp hs => by
  obtain ⟨h1, h2, h3, -⟩ := hR
  rw [h3]
  rw [hZ.eA] at hs
  subst hL
  subst hM
  refine W.widen hk hn1 ?_
  exact W.vret hZ.ex hZ.by (by rw [h1, hty]) (fun t ht _ => ⟨rfl, by rw [ht]; exact hp, by rw [ht]; exact hz, hs.F ht⟩) (fun q hq => hs.2.2 q hq) hd h2
/-! all cells stand: the fixed world -/
def zK (Z : fZ) (k n : Nat) : fZ := (zp Z, ze Z, zs Z, zm Z, zg Z, zb Z, zt Z, zc Z, zA Z, zR Z, zQ Z, k, n)
theorem Gx.C (hZ : Gx X bs y d mc ms Z) (hk : k ≤ mc) (hn1 : n ≤ ms) : Cx X y d (zK Z k n) := by
  obtain ⟨r1, r2, r3, r4⟩ := hZ.rm
  refine ⟨hZ.ex, hZ.by, hZ.ml, hZ.own, hZ.ts, hZ.K, ?_, fun c _ => hZ.A _ (by rw [hZ.x]; omega), fun i j hi hj e => ?_, r1, r2, Nat.le_trans hk r3, Nat.le_trans hn1 r4⟩
  · show fS X (zA Z) (zs Z) (zs Z).heap
    rw [hZ.eA]
    exact hZ.S
  · rw [hZ.x, hZ.x] at e
    omega
theorem g_full (hLs : Ls = layL) (hcm : Can M) (kk : fG X y (zK Z k n) pc L st M) : gG X y Z pc L st Ls M k n := fun hn H locs ls hl hz hp hs => by
  subst hLs
  rw [gw_full] at hp
  exact kk hcm hn H locs ls hl hp hs
theorem f_ret7 (hZ : Gx X bs y d mc ms Z) {M' : fM} (hR : Gr bs y (gQ7 X bs M') mc ms Z) (hd : decode y.2.1 pc = .ok (.return_, 1)) (hty : y.2.2.2 = none) (hk : k ≤ mc) (hn1 : n ≤ ms) (hM : M = M') : fG X y (zK Z k n) pc L [] M := fun hm hn H locs ls hl hp hs => by
  obtain ⟨h1, h2, h3, -⟩ := hR
  have hs : va_S (zA Z) (zs Z).heap H locs := hs
  show W (zp Z) (xl X) (ze Z) (zR Z) (zs Z) (zm Z) (zg Z) (zb Z) (zt Z) (zc Z) H locs k n (zQ Z) (F0 (zm Z) pc ls [])
  rw [h3]
  rw [hZ.eA] at hs
  subst hM
  refine W.widen hk hn1 ?_
  exact W.vret hZ.ex hZ.by (by rw [h1, hty]) (fun t ht _ => ⟨rfl, by rw [ht]; exact hp, hs.F ht⟩) (fun q hq => hs.2.2 q hq) hd h2
theorem g_call7 (hZ : Gx X bs y (d + 1) mc ms Z) {z : fY} {ix na c mc' ms' : Nat} {As rest : List Value} {M' : fM} (hcm : Can M') (hd : decode y.2.1 pc = .ok (.invokespecial ix, 3)) (hC : gC X bs d z (.ref (xa X c) :: As) Ls M (gQ7 X bs M') mc' ms') (ok : okY z na) (hi : z.1.name = "<init>" ∧ z.2.2.2 = none) (hw : Cond.methodLink y.1.cls ix z.1 ∈ tb ∧ Cond.instanceMethod z.1 ∈ tb ∧ Cond.initialized z.1.cls ∈ tb)
    (hna : As.length = na) (hst : st = As.reverse ++ .ref (xa X c) :: rest) (hr : (rest.map fun v => v.category).sum ≤ 8) (hk : k + mc' ≤ mc) (hn1 : n + ms' ≤ ms) (kk : fG X y (zK Z (k + mc') (n + ms')) (pc + 3) L rest M') : gG X y Z pc L st Ls M k n := fun hn H locs ls hl hz hp hs => by
  obtain ⟨r1, r2, r3, r4⟩ := hZ.rm
  obtain ⟨o1, o2, o3⟩ := ok
  obtain ⟨w1, w2, w3⟩ := hw
  have hr9 := va_runI (As := As) (rest := rest) (nL := y.2.2.1) (n := na) (bytes := z.2.1) (maxL := z.2.2.1) ⟨hZ.ex, hZ.by, hZ.ml, hZ.own, hZ.ts⟩ hC
    (cwI (ws' := tb) na hZ.ts (tbl_in (wsy_in o3)) (by unfold wsy; rw [hi.2]) rfl rfl (hZ.ts _ w3) (hZ.ts _ w1) (hZ.ts _ w2) hi.1 o1 ⟨r1, by show 8 + (z.2.2.1 + 11) + 40 * d ≤ _; omega⟩)
    ⟨gB.blind, hZ.pre hz hp hs⟩ (e := ze Z) (below := zb Z) (meth := zt Z) (locs := locs) (cells := k) (slots := n) (g := F0 (zm Z) pc ls st) rfl hna hl.1 hst (lv_room hr) hd ⟨by omega, by omega⟩
  intro T hT S
  obtain ⟨v, st₀, t, T', L1, h0, S', hL, e1, e2, ⟨hv, hp', hz9, hk9⟩, go⟩ := hr9 T hT S
  cases hv
  rw [h0] at hz9 hk9
  rw [← e1] at hz9 hk9 hp'
  obtain ⟨t2, a1, b1⟩ := kk hcm hn T'.heap (locs ++ L1) ls hl hp' ⟨Nat.le_trans hs.1 hz9, fun q h1 h2 => by rw [hk9 q (Nat.lt_of_lt_of_le h1 hs.1) (fun z => h2 (hZ.A q z))]; exact hs.2.1 q h1 h2, fun q hq => by
      rcases List.mem_append.mp hq with h | h
      · exact hs.2.2 q h
      · exact hZ.A _ (hL q h)⟩ T' rfl S'
  exact ⟨t2, go t2 a1, b1⟩
end GM
