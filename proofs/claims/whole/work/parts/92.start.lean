/-! THE CLAIM OUT OF ONE WALK OF THE LAW'S BODY. Your part is whole_start (and what it stands on); all else here is the same for every law, but numbers. -/
def R_law : String := "ByTheFlameLaw"
def lw_P (b : Addr) (xs : List Int32) (args : Array Value) (s : State) : Prop := args = #[.ref b] ∧ s.IntsAt b xs ∧ xs.length ≤ 3072 ∧ (Jvm.Cond.and given_1 narrow_1).before args s = true
def lw_Q (_ : Array Value) (s : State) (o : Outcome) (t : State) : Prop := o = .returned (some (.int 1)) ∧ Framed s o t [] 600000 7302250
def lw_Z (below : List Frame) (a : Array Value) (s : State) : State → Prop := fun t => ∃ o, t.status = .running ∧ Ended t below o ∧ lw_Q a s o t
/-- the law's own end, with 1 on the stack, nothing written that was there before, its room as the claim has it -/
theorem lw_ret {p : Program} {l : Launch} {e : Env} {s : State} {m : MethodId} {below : List Frame} {meth : Method} {c : Code} {b : Nat} (hx : p.tables.exec = Jvm.exec) (hb : c.code = code) (hr : meth.sig.returnType = ret) (hlocks : meth.locks = false) {pc : Nat} {H : Heap} {ls : Array Slot} (hdg : decode code pc = .ok (.ireturn, 1)) : W p l e room_1 s m #[Value.ref b] below meth c H [] 600000 7302250 (lw_Z below #[Value.ref b] s) (F0 m pc ls [.int 1]) := by
  intro T hT X
  obtain ⟨fs, hret, hrun, hended, hW, hframe⟩ := X.leave (v := some (.int 1)) (hlocks := hlocks) (fun h => by rw [hr] at h; cases h)
  have hmeth' : T.vm.method? m = some meth := X.method'
  refine ⟨T.setFrames fs, ?_, .returned (some (.int 1)), hrun, hended, rfl, ⟨_, rfl⟩, hW, hframe⟩
  jvm_step X.here [X.here.top, hx, hb, hdg, hmeth', hr, ret, narrow_b1]
  (try refine ⟨rfl, ?_⟩); (try refine ⟨rfl, ?_⟩)
  first | (intro acts; rw [hret _ acts rfl rfl rfl]) | rw [hret _ _ rfl rfl rfl]
  exact Steps.refl _
/-- what holds at the law's entry: the machine, the code, the tables' words (any of lw_tbl by 'hts w (by decide +kernel)'), the script of L ints xs at the cell b, what the Statement gives of the start (any of its parts by flat_of_before) -/
def lw_At (p : Program) (s : State) (m : MethodId) (meth : Method) (c : Code) (b L : Nat) (xs : Nat → Int32) : Prop :=
  p.tables.exec = Jvm.exec ∧ c.code = code ∧ meth.sig.returnType = ret ∧ c.maxLocals = 4 ∧ s.vm.findClass R_law = some m.cls ∧ (∀ w ∈ lw_tbl, w.before #[Value.ref b] s = true) ∧ va_X b L xs s s.heap ∧ b < s.heap.size ∧ meth.locks = false ∧ (Jvm.Cond.and given_1 narrow_1).before #[Value.ref b] s = true
theorem st_mem {args : Array Value} {s : State} (h : ∀ w ∈ lw_tbl, w.before args s = true) : ∀ w ∈ tb, w.before args s = true := fun w hw => h w (List.mem_filter.mp hw).1
def st_fl : List Cond := flatC (Jvm.Cond.and given_1 narrow_1)
def st_tm (i : Nat) : Term := .string "ByTheFlame$Reader" (wordT.getD i (0, "")).1
theorem st_ab : ∀ j, j < 6 → Cond.eq (.elem (.static "ByTheFlame" "ABOVE" "[I") (.int (Int32.ofNat j))) (.int (iv (aboveL.getD j 0))) ∈ st_fl := by decide +kernel
theorem st_w1 : ∀ i, i < 12 → Cond.exactly (st_tm i) "java/lang/String" ∈ st_fl := by decide +kernel
theorem st_w2 : ∀ i, i < 12 → Cond.eq (.field (st_tm i) "java/lang/String" "coder" "B") (.int 0) ∈ st_fl := by decide +kernel
theorem st_w3 : ∀ i, i < 12 → Cond.arrayOf (.field (st_tm i) "java/lang/String" "value" "[B") .byte ∈ st_fl := by decide +kernel
theorem st_w4 : ∀ i, i < 12 → Cond.eq (.length (.field (st_tm i) "java/lang/String" "value" "[B")) (.int (Int32.ofNat ((wordL.map List.length).getD i 0))) ∈ st_fl := by decide +kernel
theorem st_w5 : ∀ i, i < 12 → ∀ j, j < (wordL.map List.length).getD i 0 → Cond.eq (.elem (.field (st_tm i) "java/lang/String" "value" "[B") (.int (Int32.ofNat j))) (.int ((wordL.getD i []).getD j 0)) ∈ st_fl := by decide +kernel
theorem st_w6 : ∀ i, i < 12 → ∀ j, j < 12 → i ≠ j → Cond.not (Cond.eq (st_tm i) (st_tm j)) ∈ st_fl ∨ Cond.not (Cond.eq (st_tm j) (st_tm i)) ∈ st_fl := by decide +kernel
theorem st_w7 : ∀ i, i < 12 → Cond.stringRef "ByTheFlame$Reader" (wordT.getD i (0, "")).1 (wordT.getD i (0, "")).2 ∈ lw_tbl := by decide +kernel
theorem st_w8 : ∀ i, i < 12 → (wordL.map List.length).getD i 0 < 2 ^ 31 := by decide +kernel
theorem Cx.less {X : fX} {y : fY} {d d' : Nat} {Z : fZ} (h : Cx X y d Z) (hd : d' ≤ d) : Cx X y d' Z := by
  obtain ⟨a1, a2, a3, a4, a5, a6, a7, a8, a9, a10, a11, a12⟩ := h
  exact ⟨a1, a2, a3, a4, a5, a6, a7, a8, a9, by omega, by omega, a12⟩
theorem st_S {s : State} {args : Array Value} {A : Nat → Prop} (hts : ∀ w ∈ lw_tbl, w.before args s = true) (hgv : (Jvm.Cond.and given_1 narrow_1).before args s = true) (hA : ∀ a : Nat, a < s.heap.size → ¬ A a) : ∃ (adK adV : Nat → Nat) (t : Nat), ∀ X : fX, xK X = adK → xV X = adV → xT X = t → fS X A s s.heap := by
  have hs : ∀ w ∈ st_fl, w.before args s = true := flat_of_before _ hgv
  obtain ⟨adK, adV, h1, h2⟩ := vk_Sof (tm := st_tm) (A := A) (byt := wordL) (len := wordL.map List.length) st_w8 (fun i hi => hs _ (st_w1 i hi)) (fun i hi => hs _ (st_w2 i hi)) (fun i hi => hs _ (st_w3 i hi)) (fun i hi => hs _ (st_w4 i hi)) (fun i hi j hj => hs _ (st_w5 i hi j hj)) (fun i j hi hj hn => by
    rcases st_w6 i hi j hj hn with h | h
    · exact Or.inl (hs _ h)
    · exact Or.inr (hs _ h)) hA
  obtain ⟨t, h3, h4⟩ := va_Tof (tm := .static "ByTheFlame" "ABOVE" "[I") (ty := .int) (N := 6) (A := A) (f := fun j => .int (iv (aboveL.getD j 0))) (by decide) (hs _ (by decide +kernel)) (va_eqt (hs _ (by decide +kernel))) (fun j hj => va_eqt (hs _ (st_ab j hj))) hA
  refine ⟨adK, adV, t, fun X eK eV eT => ⟨?_, ?_, ?_, ?_, ?_, fun i hi => ?_⟩⟩
  · rw [eT]
    exact va_Zof (hts _ (List.mem_of_getElem? (i := 804) (by decide +kernel))) (hts _ (List.mem_of_getElem? (i := 67) (by decide +kernel))) h3 hA
  · rw [eT]
    exact h4
  · rw [eK, eV]
    exact h1
  · exact va_Zof (hts _ (List.mem_of_getElem? (i := 416) (by decide +kernel))) (hts _ (List.mem_of_getElem? (i := 75) (by decide +kernel))) (va_eqi (hs _ (by decide +kernel))) hA
  · exact va_Zqof (hts _ (List.mem_of_getElem? (i := 432) (by decide +kernel))) (hts _ (List.mem_of_getElem? (i := 77) (by decide +kernel))) (hs _ (by decide +kernel)) hA
  · rw [eK]
    exact vk_R.of (hts _ (st_w7 i hi)) (h2 i hi)
/-- the classes, at the start -/
theorem st_K {s : State} {args : Array Value} (hts : ∀ w ∈ lw_tbl, w.before args s = true) : ∃ (dC : Nat → ClassId) (dI : Nat → Nat → Nat) (cI cZ cA : ClassId), ∀ X : fX, xD X = (dC, dI) → xI X = cI → xZ X = cZ → xA X = cA → va_K (xD X) vwCl (tysOf X) s := by
  have htb := st_mem hts
  have h0 : ∀ c : Nat, ∃ q : ClassId × (Nat → Nat), ∀ r : vw_C, vwCl[c]? = some r → u_Kn s r.1 r.2.1 r.2.2 q.1 q.2 := by
    intro c
    match c with
    | 0 =>
      obtain ⟨a, i, h⟩ := u_known (C := RX0) (T := TX0) (N := 9) (n := 9) htb iw_X0 (htb _ (tb_in 90 (by decide +kernel) (by decide +kernel)))
      exact ⟨(a, i), fun r hr => by cases hr; exact h⟩
    | 1 =>
      obtain ⟨a, i, h⟩ := u_known (C := RX2) (T := TX2) (N := 9) (n := 9) htb iw_X2 (htb _ (tb_in 147 (by decide +kernel) (by decide +kernel)))
      exact ⟨(a, i), fun r hr => by cases hr; exact h⟩
    | 2 =>
      obtain ⟨a, i, h⟩ := u_known (C := RX3) (T := TX3) (N := 3) (n := 3) htb iw_X3 (htb _ (tb_in 254 (by decide +kernel) (by decide +kernel)))
      exact ⟨(a, i), fun r hr => by cases hr; exact h⟩
    | 3 =>
      obtain ⟨a, i, h⟩ := u_known (C := RX4) (T := TX4) (N := 13) (n := 13) htb iw_X4 (htb _ (tb_in 208 (by decide +kernel) (by decide +kernel)))
      exact ⟨(a, i), fun r hr => by cases hr; exact h⟩
    | 4 =>
      obtain ⟨a, i, h⟩ := u_known (C := RX5) (T := TX5) (N := 8) (n := 8) htb iw_X5 (htb _ (tb_in 139 (by decide +kernel) (by decide +kernel)))
      exact ⟨(a, i), fun r hr => by cases hr; exact h⟩
    | 5 =>
      obtain ⟨a, i, h⟩ := u_known (C := RX6) (T := TX6) (N := 9) (n := 9) htb iw_X6 (htb _ (tb_in 82 (by decide +kernel) (by decide +kernel)))
      exact ⟨(a, i), fun r hr => by cases hr; exact h⟩
    | 6 =>
      obtain ⟨a, i, h⟩ := u_known (C := RX7) (T := TX7) (N := 61) (n := 61) htb iw_X7 (htb _ (tb_in 806 (by decide +kernel) (by decide +kernel)))
      exact ⟨(a, i), fun r hr => by cases hr; exact h⟩
    | c + 7 => exact ⟨(default, fun _ => 0), fun r hr => by simp [vwCl] at hr⟩
  obtain ⟨dd, hd⟩ := Classical.axiomOfChoice h0
  obtain ⟨cI, kI, mI, i1, i2, i3⟩ := Cond.arrayClass_spec (type := .int) (htb _ (tb_in 137 (by decide +kernel) (by decide +kernel)))
  obtain ⟨cZ, kZ, mZ, z1, z2, z3⟩ := Cond.arrayClass_spec (type := .boolean) (htb _ (tb_in 999 (by decide +kernel) (by decide +kernel)))
  obtain ⟨mA, cA, kA, a0, a2, a3, a1⟩ := Cond.arrayOver_specA (t := .int) (hts _ (List.mem_of_getElem? (i := 145) (by decide +kernel)))
  refine ⟨fun c => (dd c).1, fun c => (dd c).2, cI, cZ, cA, fun X e1 e2 e3 e4 => ⟨fun c q hq => ?_, fun k q hq => ?_⟩⟩
  · rw [e1]
    exact hd c q hq
  · unfold tysOf at hq
    rw [e2, e3, e4] at hq
    match k, hq with
    | 0, hq => cases hq; exact ⟨fun n z => ⟨fun k h => (by cases h), kI, i2, mI, i3⟩, i1⟩
    | 1, hq => cases hq; exact ⟨fun n z => ⟨fun k h => (by cases h), kZ, z2, mZ, z3⟩, z1⟩
    | 2, hq => cases hq; exact ⟨fun n z => ⟨fun k h => (by cases h), kA, a2, mA, a3⟩, a1⟩
    | k + 3, hq => simp at hq
set_option maxRecDepth 20000 in
set_option maxHeartbeats 4000000 in
/-- from the entry to the answer 1 -/
theorem whole_start {p : Program} {e : Env} {s : State} {m : MethodId} {below : List Frame} {meth : Method} {c : Code} (l : Launch) (hflags : l.flags = flags0) {b L : Nat} {xs : Nat → Int32} (hL : L ≤ 3072) (C0 : lw_At p s m meth c b L xs) : W p l e room_1 s m #[Value.ref b] below meth c s.heap [] 0 0 (lw_Z below #[Value.ref b] s) (entryFrame m ([Value.ref b] : List Value).toArray 4) := by
  obtain ⟨hx, hb, hr, hml, hown, hts, hX, hbl, hlocks, hgv⟩ := id C0
  have hA : ∀ a : Nat, a < s.heap.size → ¬ (fun q : Nat => s.heap.size ≤ q) a := fun a h1 h2 => Nat.not_le.mpr h1 h2
  obtain ⟨adK, adV, t, hS⟩ := st_S (A := fun q : Nat => s.heap.size ≤ q) hts hgv hA
  obtain ⟨dC, dI, cI, cZ, cA, hK⟩ := st_K hts
  have hZ : Gx (l, (dC, dI), fun c => s.heap.size + c, cI, cZ, cA, adK, adV, t) s.heap.size mL 110 600000 7302250 (p, e, s, m, #[Value.ref b], below, meth, c, (fun q : Nat => s.heap.size ≤ q), room_1, lw_Z below #[Value.ref b] s, 0, 0) :=
    ⟨hx, hb, hml, hown, st_mem hts, hK _ rfl rfl rfl rfl, ⟨va_Nw.of rfl (hts _ (List.mem_of_getElem? (i := 91) (by decide +kernel))), va_Nw.of rfl (hts _ (List.mem_of_getElem? (i := 255) (by decide +kernel))), mO.of (hts _ (List.mem_of_getElem? (i := 145) (by decide +kernel)))⟩, hS _ rfl rfl rfl, rfl, fun _ => rfl, Nat.le_refl _, Nat.le_of_ble_eq_true rfl, Nat.le_of_ble_eq_true rfl, Nat.le_refl _, Nat.le_refl _⟩
  generalize hXe : ((l, (dC, dI), fun c => s.heap.size + c, cI, cZ, cA, adK, adV, t) : fX) = X at hZ
  have hxl : xl X = l := by rw [← hXe]
  have hx0 : xa X 0 = s.heap.size := by rw [← hXe]; rfl
  generalize hZe : ((p, e, s, m, #[Value.ref b], below, meth, c, (fun q : Nat => s.heap.size ≤ q), room_1, lw_Z below #[Value.ref b] s, 0, 0) : fZ) = Z at hZ
  have key : gG X mL Z 0 [.ref b, .null, .null, .null] [] [] zM 0 0 := by
    refine g_new (ci := 5) (z := 0) (fs := [(0, 4, 0), (1, 4, 0), (2, 4, 0), (3, 4, 0), (4, 4, 0), (5, 4, 0), (6, 4, 0), (7, 4, 0), (8, 0, 0)]) hZ tyX6 tyX6_ok dL_law_0 rfl iw_X6 (tb_in 81 (by decide +kernel) (by decide +kernel)) (tb_in 82 (by decide +kernel) (by decide +kernel)) (tb_in 67 (by decide +kernel) (by decide +kernel)) (by decide +kernel) (by decide +kernel) (Nat.le_of_ble_eq_true rfl) (Nat.le_of_ble_eq_true rfl) (by decide +kernel) (fun i => by simp [mY, mW, mV, mU, mT, zM, up]) ?_
    refine g_dup hZ dL_law_3 rfl ?_
    refine g_toL (Ls' := gl_14) (by decide +kernel) ?_
    refine g_callI (c := 0) (na := 0) hZ dL_law_4 (k_X6 hZ.x) okX6_init ⟨rfl, rfl⟩ ⟨tb_in 83 (by decide +kernel) (by decide +kernel), tb_in 84 (by decide +kernel) (by decide +kernel), tb_in 67 (by decide +kernel) (by decide +kernel)⟩ (As := []) rfl rfl (Nat.le_of_ble_eq_true rfl) (Nat.le_of_ble_eq_true rfl) (Nat.le_of_ble_eq_true rfl) ?_
    refine g_astore_n (L' := [_, _, _, _]) hZ dL_law_7 rfl rfl ?_
    refine g_new (ci := 6) (z := 59) (fs := [(0, 0, 0), (1, 4, 0), (2, 4, 0), (3, 0, 0), (4, 0, 0), (5, 4, 0), (6, 0, 0), (7, 4, 0), (8, 4, 0), (9, 4, 0), (10, 4, 0), (11, 4, 0), (12, 0, 0), (13, 0, 0), (14, 0, 0), (15, 0, 0), (16, 0, 0), (17, 0, 0), (18, 0, 0), (19, 0, 0), (20, 0, 0), (21, 0, 0), (22, 0, 0), (23, 0, 0), (24, 0, 0), (25, 0, 0), (26, 2, 0), (27, 0, 0), (28, 0, 0), (29, 0, 0), (30, 4, 0), (31, 4, 0), (32, 4, 0), (33, 4, 0), (34, 4, 0), (35, 0, 0), (36, 0, 0), (37, 0, 0), (38, 4, 0), (39, 4, 0), (40, 4, 0), (41, 4, 0), (42, 0, 0), (43, 0, 0), (44, 0, 0), (45, 4, 0), (46, 4, 0), (47, 4, 0), (48, 4, 0), (49, 4, 0), (50, 4, 0), (51, 0, 0), (52, 4, 0), (53, 0, 0), (54, 0, 0), (55, 0, 0), (56, 0, 0), (57, 4, 0), (58, 4, 0), (59, 4, 0), (60, 4, 0)]) hZ tyX7 tyX7_ok dL_law_8 rfl iw_X7 (tb_in 805 (by decide +kernel) (by decide +kernel)) (tb_in 806 (by decide +kernel) (by decide +kernel)) (tb_in 73 (by decide +kernel) (by decide +kernel)) (by decide +kernel) (by decide +kernel) (Nat.le_of_ble_eq_true rfl) (Nat.le_of_ble_eq_true rfl) (by decide +kernel) (fun i => by simp [mY, mW, mV, mU, mT, zM, up]) ?_
    refine g_dup hZ dL_law_11 rfl ?_
    refine g_toL (Ls' := gl_16) (by decide +kernel) ?_
    refine g_call7 (c := 59) (na := 0) (M' := M0) hZ M0_can dL_law_12 (k_X7 hZ.x) okX7_init ⟨rfl, rfl⟩ ⟨tb_in 807 (by decide +kernel) (by decide +kernel), tb_in 808 (by decide +kernel) (by decide +kernel), tb_in 73 (by decide +kernel) (by decide +kernel)⟩ (As := []) rfl rfl (Nat.le_of_ble_eq_true rfl) (Nat.le_of_ble_eq_true rfl) (Nat.le_of_ble_eq_true rfl) ?_
    have hC := hZ.C (k := 88) (n := 327662) (Nat.le_of_ble_eq_true rfl) (Nat.le_of_ble_eq_true rfl)
    show fG X mL (zK Z 88 327662) 15 [.ref b, .ref (xa X 0), .null, .null] [.ref (xa X 59)] M0
    refine f_astore_n (L' := [_, _, _, _]) hC dL_law_15 rfl rfl ?_
    refine f_iconst hC dL_law_16 ?_
    refine f_istore_n (L' := [_, _, _, _]) hC dL_law_17 rfl rfl ?_
    refine law_loop (b := b) (n := L) (xs := xs) (hC.less (by omega)) ?_ (fun i M => ?_) (L + 1) 0 M0 Rel0 (Int.le_refl 0) (by omega) (by omega)
    · rw [← hZe]
      exact ⟨hX, hbl, Nat.not_le.mpr hbl, hL⟩
    · rw [← hZe, ← hXe]
      intro hm hn H locs ls hl hp hs
      show W p l e room_1 s m #[Value.ref b] below meth c H locs 88 327662 (lw_Z below #[Value.ref b] s) (F0 m 1110 ls [.int (iv 1)])
      rw [show iv 1 = (1 : Int32) by decide]
      refine va_forget (fun q hq => hs.2.2 q hq) ?_
      refine W.widen (k := 600000) (n := 7302250) (Nat.le_of_ble_eq_true rfl) (Nat.le_of_ble_eq_true rfl) ?_
      exact lw_ret hx hb hr hlocks dL_law_1110
  rw [lg_entry_eq]
  have hl := lv_entry ([.ref b]) (n := 4) (Nat.le_of_ble_eq_true rfl)
  generalize (lg_sl ([.ref b]) ++ List.replicate (4 - (lg_sl ([.ref b])).length) Slot.unset).toArray = ls at hl ⊢
  have hLH : LH 4 [.ref b, .null, .null, .null] ls := by
    refine ⟨hl.1, hl.2.1, fun i v hi hv => ?_⟩
    match i, hi with
    | 0, hi => cases hi; exact hl.2.2 (0, .ref b) (by simp [lv_args])
    | 1, hi => cases hi; exact absurd rfl hv
    | 2, hi => cases hi; exact absurd rfl hv
    | 3, hi => cases hi; exact absurd rfl hv
    | i + 4, hi => simp at hi
  have hkey := key rfl s.heap [] ls hLH (by rw [← hx0]; rfl) (fun k q hq => by simp [gW] at hq) (by rw [← hZe]; exact va_S.rf)
  rw [← hZe] at hkey
  rw [hxl] at hkey
  exact hkey
