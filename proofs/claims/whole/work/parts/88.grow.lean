/-! GROWING WORLD: cells that are made one behind the other, from bs on; a field of kind 4 is still null -/
abbrev gL : Type := List (Nat × Nat × List (Nat × Nat × Nat))
def gval (X : fX) (f : Int → Int) (q : Nat × Nat × Nat) : Value := if q.2.1 = 4 then .null else fval X f q
def gce (X : fX) (f : Int → Int) (q : Nat × Nat × List (Nat × Nat × Nat)) : va_E := match q.1 with
  | 0 => .inl (xI X, q.2.1, .inl (fun j => iv (f j)))
  | 1 => .inl (xZ X, q.2.1, .inl (fun j => iv (f j)))
  | 2 => .inl (xA X, q.2.1, .inr (.inr (.inr (.inr (fun j => if j < q.2.1 then some (xa X ((q.2.2.headD (0, 0, 0)).1 + j)) else none)))))
  | _ => .inr (q.2.1, q.2.2.map (gval X f))
def gW (X : fX) (Ls : gL) (M : fM) : va_W := (List.range Ls.length).map (fun c => (xa X c, gce X (M c) (Ls.getD c (9, 0, []))))
section GW
variable {X : fX} {Ls : gL} {M : fM} {bs : Nat}
theorem gw_at {c : Nat} {q : Nat × Nat × List (Nat × Nat × Nat)} (h : Ls[c]? = some q) : (gW X Ls M)[c]? = some (xa X c, gce X (M c) q) := by
  have hl := (List.getElem?_eq_some_iff.mp h).1
  simp only [gW, List.getElem?_map, List.getElem?_range hl, Option.map_some, List.getD_eq_getElem?_getD, h, Option.getD_some]
theorem gw_lt {c : Nat} {q : Nat × va_E} (h : (gW X Ls M)[c]? = some q) : c < Ls.length := by
  have := (List.getElem?_eq_some_iff.mp h).1
  simpa [gW] using this
theorem gw_1 {c : Nat} {q : Nat × va_E} (h : (gW X Ls M)[c]? = some q) : q.1 = xa X c := by
  have hl := gw_lt h
  rw [gw_at (List.getElem?_eq_getElem hl)] at h
  cases h
  rfl
theorem gw_D (hx : ∀ c, xa X c = bs + c) {A : Nat → Prop} (hA : ∀ q, bs ≤ q → A q) : va_D A (gW X Ls M) := by
  refine ⟨fun i j p q hp hq e => ?_, fun k q hq => ?_⟩
  · rw [gw_1 hp, gw_1 hq, hx, hx] at e
    omega
  · rw [gw_1 hq, hx]
    exact hA _ (by omega)
theorem gw_set {M' : fM} {c : Nat} {e : va_E} {q : Nat × Nat × List (Nat × Nat × Nat)} (hc : c < Ls.length) (h1 : ∀ k, k ≠ c → M' k = M k) (h2 : gce X (M' c) q = e) : (gW X Ls M).set c (xa X c, e) = gW X (Ls.set c q) M' := by
  apply List.ext_getElem?
  intro k
  by_cases hk : k < Ls.length
  · have hk2 : k < (Ls.set c q).length := by rw [List.length_set]; exact hk
    rw [List.getElem?_set]
    by_cases e1 : c = k
    · subst e1
      rw [if_pos rfl, if_pos (by simpa [gW] using hk), gw_at (q := q) (List.getElem?_set_self hc), h2]
    · rw [if_neg e1, gw_at (List.getElem?_eq_getElem hk), gw_at (q := Ls[k]) (by rw [List.getElem?_set_ne e1, List.getElem?_eq_getElem hk]), h1 k (fun h => e1 h.symm)]
  · rw [List.getElem?_eq_none (by rw [List.length_set]; simpa [gW] using hk), List.getElem?_eq_none (by simpa [gW] using hk)]
theorem gw_push {q : Nat × Nat × List (Nat × Nat × Nat)} {z : Nat} (hz : Ls.length = z) : gW X Ls M ++ [(xa X z, gce X (M z) q)] = gW X (Ls ++ [q]) M := by
  subst hz
  apply List.ext_getElem?
  intro k
  rcases Nat.lt_trichotomy k Ls.length with hk | hk | hk
  · rw [List.getElem?_append_left (by simpa [gW] using hk), gw_at (List.getElem?_eq_getElem hk), gw_at (q := Ls[k]) (by rw [List.getElem?_append_left hk, List.getElem?_eq_getElem hk])]
  · subst hk
    rw [List.getElem?_append_right (by simp [gW]), gw_at (q := q) (by rw [List.getElem?_append_right (Nat.le_refl _)]; simp)]
    simp [gW]
  · rw [List.getElem?_eq_none (by simp [gW]; omega), List.getElem?_eq_none (by simp [gW]; omega)]
theorem gw_new {q : Nat × Nat × List (Nat × Nat × Nat)} {z : Nat} {H H1 : Heap} (hz : Ls.length = z) (hp : va_P (xD X) vwCl (gW X Ls M) H) (hs : H.size = xa X z) (o1 : ∀ a, a < xa X z → H1[a]? = H[a]?) (hq : va_at (xD X) vwCl (xa X z, gce X (M z) q) H1) : va_P (xD X) vwCl (gW X (Ls ++ [q]) M) H1 := by
  rw [← gw_push hz]
  refine (hp.kept (fun k x hx => o1 x.1 (by rw [← hs]; exact (hp k x hx).lt))).app (fun k x hx => ?_)
  have h0 : k < 1 := (List.getElem?_eq_some_iff.mp hx).1
  rw [show k = 0 by omega] at hx
  cases hx
  exact hq
theorem lay_n4 : ∀ c, c < nC → ∀ q, q ∈ (lay c).2.2 → q.2.1 ≠ 4 := by decide +kernel
theorem gw_full : gW X layL M = wsOf X M := by
  have hl : layL.length = nC := by decide +kernel
  unfold gW wsOf
  rw [hl]
  apply List.map_congr_left
  intro c hc
  have hc := List.mem_range.mp hc
  have e : (lay c).2.2.map (gval X (M c)) = (lay c).2.2.map (fval X (M c)) := List.map_congr_left (fun q hq => by unfold gval; rw [if_neg (lay_n4 c hc q hq)])
  show (xa X c, gce X (M c) (lay c)) = (xa X c, ce X (M c) (lay c))
  generalize lay c = q at e
  obtain ⟨k, r1, r2⟩ := q
  have e : r2.map (gval X (M c)) = r2.map (fval X (M c)) := e
  match k with
  | 0 => rfl
  | 1 => rfl
  | 2 => rfl
  | k + 3 =>
    show (xa X c, Sum.inr (r1, r2.map (gval X (M c)))) = (xa X c, Sum.inr (r1, r2.map (fval X (M c))))
    rw [e]
end GW
/-! an array class over int[] -/
def mO (U : State) : Prop := (Cond.arrayOver (.array .int)).before #[] U = true
theorem mO.use {A : Array Value} {U : State} (h : mO U) : (Cond.arrayOver (.array .int)).before A U = true := h
theorem mO.of {A : Array Value} {U : State} (h : (Cond.arrayOver (.array .int)).before A U = true) : mO U := h
theorem mO.moved {u U : State} (hvm : u.vm.Alike U.vm) (h : mO u) : mO U := by
  have e := Cond.arrayOver_setVmC (args := #[]) hvm (.array .int)
  have e2 : (Cond.arrayOver (.array .int)).before #[] (u.setVm U.vm) = true := by rw [e]; exact h
  exact e2
def gN (U : State) : Prop := va_Nw (.methodLinkNest "ByTheFlame" 9 yX0_init "ByTheFlame") U ∧ va_Nw (.methodLinkNest "ByTheFlame" 40 yX3_init "ByTheFlame") U ∧ mO U
theorem gN.warm {u U : State} (hW : u.WarmedH U.vm) (h : gN u) : gN U := ⟨va_Nw.warmM hW h.1, va_Nw.warmM hW h.2.1, h.2.2.moved hW.alike⟩
theorem gN.same {u U : State} (hv : U.vm = u.vm) (h : gN u) : gN U := ⟨va_Nw.same rfl hv.symm h.1, va_Nw.same rfl hv.symm h.2.1, h.2.2.moved (by rw [hv]; exact Vm.Alike.refl u.vm)⟩
/-! where a walk stands in it -/
def Gx (X : fX) (bs : Nat) (y : fY) (d mc ms : Nat) (Z : fZ) : Prop :=
  (zp Z).tables.exec = Jvm.exec ∧ (zc Z).code = y.2.1 ∧ (zc Z).maxLocals = y.2.2.1 ∧ (zs Z).vm.findClass y.1.cls = some (zm Z).cls ∧ (∀ w ∈ tb, w.before (zg Z) (zs Z) = true) ∧ va_K (xD X) vwCl (tysOf X) (zs Z) ∧ gN (zs Z) ∧ fS X (fun q => bs ≤ q) (zs Z) (zs Z).heap ∧ zA Z = (fun q => bs ≤ q) ∧ (∀ c, xa X c = bs + c) ∧ bs ≤ (zs Z).heap.size ∧ d ≤ (zR Z).frames ∧ 40 * d ≤ (zR Z).locals ∧ mc ≤ (zR Z).cells ∧ ms ≤ (zR Z).slots
section GX
variable {X : fX} {bs : Nat} {y : fY} {d mc ms : Nat} {Z : fZ}
theorem Gx.ex (h : Gx X bs y d mc ms Z) : (zp Z).tables.exec = Jvm.exec := h.1
theorem Gx.by (h : Gx X bs y d mc ms Z) : (zc Z).code = y.2.1 := h.2.1
theorem Gx.ml (h : Gx X bs y d mc ms Z) : (zc Z).maxLocals = y.2.2.1 := h.2.2.1
theorem Gx.own (h : Gx X bs y d mc ms Z) : (zs Z).vm.findClass y.1.cls = some (zm Z).cls := h.2.2.2.1
theorem Gx.ts (h : Gx X bs y d mc ms Z) : ∀ w ∈ tb, w.before (zg Z) (zs Z) = true := h.2.2.2.2.1
theorem Gx.K (h : Gx X bs y d mc ms Z) : va_K (xD X) vwCl (tysOf X) (zs Z) := h.2.2.2.2.2.1
theorem Gx.N (h : Gx X bs y d mc ms Z) : gN (zs Z) := h.2.2.2.2.2.2.1
theorem Gx.S (h : Gx X bs y d mc ms Z) : fS X (fun q => bs ≤ q) (zs Z) (zs Z).heap := h.2.2.2.2.2.2.2.1
theorem Gx.eA (h : Gx X bs y d mc ms Z) : zA Z = (fun q => bs ≤ q) := h.2.2.2.2.2.2.2.2.1
theorem Gx.x (h : Gx X bs y d mc ms Z) : ∀ c, xa X c = bs + c := h.2.2.2.2.2.2.2.2.2.1
theorem Gx.b0 (h : Gx X bs y d mc ms Z) : bs ≤ (zs Z).heap.size := h.2.2.2.2.2.2.2.2.2.2.1
theorem Gx.rm (h : Gx X bs y d mc ms Z) : d ≤ (zR Z).frames ∧ 40 * d ≤ (zR Z).locals ∧ mc ≤ (zR Z).cells ∧ ms ≤ (zR Z).slots := h.2.2.2.2.2.2.2.2.2.2.2
theorem Gx.A (h : Gx X bs y d mc ms Z) : ∀ q : Nat, bs ≤ q → zA Z q := fun q hq => by rw [h.eA]; exact hq
theorem Gx.hA (h : Gx X bs y d mc ms Z) : ∀ q : Nat, (zs Z).heap.size ≤ q → zA Z q := fun q hq => h.A q (Nat.le_trans h.b0 hq)
theorem Gx.D (h : Gx X bs y d mc ms Z) {Ls : gL} {M : fM} : va_D (zA Z) (gW X Ls M) := gw_D h.x h.A
end GX
/-- a point in a method, in a growing world: k cells of n slots are made by it so far -/
def gG (X : fX) (y : fY) (Z : fZ) (pc : Nat) (L st : List Value) (Ls : gL) (M : fM) (k n : Nat) : Prop :=
  L.length = y.2.2.1 → ∀ (H : Heap) (locs : List Loc) (ls : Array Slot), LH y.2.2.1 L ls → H.size = xa X Ls.length → va_P (xD X) vwCl (gW X Ls M) H → va_S (zA Z) (zs Z).heap H locs →
    W (zp Z) (xl X) (ze Z) (zR Z) (zs Z) (zm Z) (zg Z) (zb Z) (zt Z) (zc Z) H locs k n (zQ Z) (F0 (zm Z) pc ls st)
def gB (X : fX) (bs : Nat) (Ls : gL) (M : fM) (U : State) : Prop := va_P (xD X) vwCl (gW X Ls M) U.heap ∧ U.heap.size = xa X Ls.length ∧ va_K (xD X) vwCl (tysOf X) U ∧ gN U ∧ fS X (fun q => bs ≤ q) U U.heap
def gQ (X : fX) (bs : Nat) (Ls' : gL) (M' : fM) : Array Value → State → Outcome → State → Prop := fun _ st o t => o = .returned none ∧ va_P (xD X) vwCl (gW X Ls' M') t.heap ∧ t.heap.size = xa X Ls'.length ∧ va_F (fun q => bs ≤ q) st t
def gQ7 (X : fX) (bs : Nat) (M' : fM) : Array Value → State → Outcome → State → Prop := fun _ st o t => o = .returned none ∧ va_P (xD X) vwCl (wsOf X M') t.heap ∧ va_F (fun q => bs ≤ q) st t
def gRm (d mc ms : Nat) : Room := { frames := d, cells := mc, slots := ms, locals := 40 * d }
def gC (X : fX) (bs d : Nat) (y : fY) (As : List Value) (Ls : gL) (M : fM) (Qc : Array Value → State → Outcome → State → Prop) (mc ms : Nat) : Prop :=
  Met (xl X) y.1 (wsy y) (gRm d mc ms) (va_Pc As (gB X bs Ls M)) Qc mc ms (fun q => bs ≤ q)
def Gr (bs : Nat) (y : fY) (Qc : Array Value → State → Outcome → State → Prop) (mc ms : Nat) (Z : fZ) : Prop :=
  (zt Z).sig.returnType = y.2.2.2 ∧ (zt Z).locks = false ∧ zQ Z = MQ (zb Z) Qc (zg Z) (zs Z) mc ms (fun q => bs ≤ q) ∧ (zt Z).name = y.1.name
theorem gB.blind {X : fX} {bs : Nat} {Ls : gL} {M : fM} {As : List Value} : FrameBlind (va_Pc As (gB X bs Ls M)) := fun a U g mk q => by
  obtain ⟨q0, q1, q2, q3, q4, q5⟩ := q
  exact ⟨q0, q1, q2, va_K.moved (u := U) (U := U.calling g mk a) (Vm.Alike.refl U.vm) q3, gN.same (u := U) (U := U.calling g mk a) rfl q4, fS.same (u := U) (U := U.calling g mk a) rfl q5⟩
theorem gC.of {X : fX} {bs d : Nat} {y : fY} {As L : List Value} {Ls : gL} {M : fM} {Qc : Array Value → State → Outcome → State → Prop} {mc ms : Nat} (hx : ∀ c, xa X c = bs + c) (hy : plainName y.1.cls = true) (hL : enF As y.2.2.1 = L) (hn : (enL As).length ≤ y.2.2.1)
    (h : ∀ Z, Gx X bs y d mc ms Z → Gr bs y Qc mc ms Z → gG X y Z 0 L [] Ls M 0 0) : gC X bs d y As Ls M Qc mc ms := by
  refine Met.ofW (cc := y.2.1) (maxL := y.2.2.1) (ret := y.2.2.2) hy rfl ?_
  intro p e s m args below meth c s₁ B hml hv
  obtain ⟨rfl, hP, hz, hK, hN, hS⟩ := hv
  have hts := atoms_spec (ws := wsy y) B.pre
  have hown : s.vm.findClass y.1.cls = some m.cls := findClass_of_methodNamed B.named
  have hin : meth.name = y.1.name := (name_of_methodNamed B.named B.method).1
  rw [lg_entry_eq]
  have hl := lv_entry As (n := y.2.2.1) (by rw [enL_len]; exact hn)
  generalize (lg_sl As ++ List.replicate (y.2.2.1 - (lg_sl As).length) Slot.unset).toArray = ls at hl ⊢
  have hLH : LH y.2.2.1 L ls := by
    refine ⟨hl.1, hl.2.1, fun i v hi hv => ?_⟩
    rw [← hL] at hi
    unfold enF at hi
    by_cases hlt : i < (enL As).length
    · rw [List.getElem?_append_left hlt] at hi
      have := enL_args As 0 i v hi hv
      rw [Nat.zero_add] at this
      exact hl.2.2 _ this
    · rw [List.getElem?_append_right (by omega), List.getElem?_replicate] at hi
      split at hi
      · cases hi; exact absurd rfl hv
      · cases hi
  refine h (p, e, s, m, As.toArray, below, meth, c, (fun q => bs ≤ q), gRm d mc ms, MQ below Qc As.toArray s mc ms (fun q => bs ≤ q), 0, 0) ?_ ?_ (by rw [← hL]; unfold enF; rw [List.length_append, List.length_replicate]; omega) s.heap [] ls hLH hz hP va_S.rf
  · exact ⟨B.exec, B.bytes, hml, hown, fun w hw => hts w (List.mem_cons_of_mem _ hw), hK, hN, hS, rfl, hx, by show bs ≤ s.heap.size; rw [hz, hx]; omega, Nat.le_refl _, Nat.le_refl _, Nat.le_refl _, Nat.le_refl _⟩
  · exact ⟨B.returns, B.notSynchronized, rfl, hin⟩
theorem up_z {M : fM} {c : Nat} {i : Int} (h : M c i = 0) : up M c i 0 = M := by
  funext c' i'
  unfold up
  by_cases e : c' = c ∧ i' = i
  · rw [if_pos e, e.1, e.2, h]
  · rw [if_neg e]
section GR
variable {X : fX} {bs : Nat} {y : fY} {d mc ms : Nat} {Z : fZ} {pc : Nat} {L L' st : List Value} {Ls : gL} {M : fM} {k n : Nat}
theorem g_toL {Ls' : gL} (h : Ls = Ls') (kk : gG X y Z pc L st Ls' M k n) : gG X y Z pc L st Ls M k n := by rw [h]; exact kk
/-! rows -/
theorem g_aload_n (hZ : Gx X bs y d mc ms Z) {i : Fin 4} {x : Nat} (hd : decode y.2.1 pc = .ok (.aload_n i, 1)) (hv : L[(i : Nat)]? = some (.ref x)) (kk : gG X y Z (pc + 1) L (.ref x :: st) Ls M k n) : gG X y Z pc L st Ls M k n := fun hn H locs ls hl hz hp hs => lv_aload_n hZ.ex hZ.by hd rfl (hl.at hv (by simp)) (kk hn H locs ls hl hz hp hs)
theorem g_iload_n (hZ : Gx X bs y d mc ms Z) {i : Fin 4} {x : Int32} (hd : decode y.2.1 pc = .ok (.iload_n i, 1)) (hv : L[(i : Nat)]? = some (.int x)) (kk : gG X y Z (pc + 1) L (.int x :: st) Ls M k n) : gG X y Z pc L st Ls M k n := fun hn H locs ls hl hz hp hs => lv_iload_n hZ.ex hZ.by hd rfl (hl.at hv (by simp)) (kk hn H locs ls hl hz hp hs)
theorem g_iconst (hZ : Gx X bs y d mc ms Z) {a : Int} (hd : decode y.2.1 pc = .ok (.iconst a, 1)) (kk : gG X y Z (pc + 1) L (.int (iv a) :: st) Ls M k n) : gG X y Z pc L st Ls M k n := fun hn H locs ls hl hz hp hs => lv_iconst hZ.ex hZ.by hd rfl (kk hn H locs ls hl hz hp hs)
theorem g_bipush (hZ : Gx X bs y d mc ms Z) {a : Int} (hd : decode y.2.1 pc = .ok (.bipush a, 2)) (kk : gG X y Z (pc + 2) L (.int (iv a) :: st) Ls M k n) (h : -128 ≤ a ∧ a ≤ 127 := by omega) : gG X y Z pc L st Ls M k n := fun hn H locs ls hl hz hp hs => lv_bipush hZ.ex hZ.by hd (iv8 h) (kk hn H locs ls hl hz hp hs)
theorem g_sipush (hZ : Gx X bs y d mc ms Z) {a : Int} (hd : decode y.2.1 pc = .ok (.sipush a, 3)) (kk : gG X y Z (pc + 3) L (.int (iv a) :: st) Ls M k n) (h : -32768 ≤ a ∧ a ≤ 32767 := by omega) : gG X y Z pc L st Ls M k n := fun hn H locs ls hl hz hp hs => lv_sipush hZ.ex hZ.by hd (iv16 h) (kk hn H locs ls hl hz hp hs)
theorem g_ldc (hZ : Gx X bs y d mc ms Z) {i : Nat} {v : Int32} (e : Int) (hd : decode y.2.1 pc = .ok (.ldc i, 2)) (hw : Cond.constant y.1.cls i v ∈ tb) (hv : v = iv e) (kk : gG X y Z (pc + 2) L (.int (iv e) :: st) Ls M k n) : gG X y Z pc L st Ls M k n := fun hn H locs ls hl hz hp hs => lv_ldc hZ.ex hZ.by hZ.own (hZ.ts _ hw) hd (by rw [hv]; exact kk hn H locs ls hl hz hp hs)
theorem g_dup (hZ : Gx X bs y d mc ms Z) {v : Value} (hd : decode y.2.1 pc = .ok (.dup, 1)) (hc : v.category = 1) (kk : gG X y Z (pc + 1) L (v :: v :: st) Ls M k n) : gG X y Z pc L (v :: st) Ls M k n := fun hn H locs ls hl hz hp hs => lv_dup hZ.ex hZ.by hd hc (kk hn H locs ls hl hz hp hs)
theorem g_goto (hZ : Gx X bs y d mc ms Z) {off : Int} {tgt : Nat} (hd : decode y.2.1 pc = .ok (.goto off, 3)) (ht : (pc : Int) + off = (tgt : Int)) (kk : gG X y Z tgt L st Ls M k n) : gG X y Z pc L st Ls M k n := fun hn H locs ls hl hz hp hs => lv_goto hZ.ex hZ.by hd ht (kk hn H locs ls hl hz hp hs)
theorem g_igt (hZ : Gx X bs y d mc ms Z) {a b : Int} {off : Int} {tgt : Nat} (hd : decode y.2.1 pc = .ok (.if_icmp .gt off, 3)) (ht : (pc : Int) + off = (tgt : Int)) (ha : rg a) (hb : rg b) (kt : b < a → gG X y Z tgt L st Ls M k n) (kf : ¬ b < a → gG X y Z (pc + 3) L st Ls M k n) : gG X y Z pc L (.int (iv b) :: .int (iv a) :: st) Ls M k n := fun hn H locs ls hl hz hp hs => lv_icmp_gt hZ.ex hZ.by hd ht (fun q => kt ((iv_lt hb ha).mp q) hn H locs ls hl hz hp hs) (fun q => kf (fun e => q ((iv_lt hb ha).mpr e)) hn H locs ls hl hz hp hs)
theorem g_istore_n (hZ : Gx X bs y d mc ms Z) {i : Fin 4} {x : Int32} (hd : decode y.2.1 pc = .ok (.istore_n i, 1)) (hi : decide ((i : Nat) < L.length) = true) (hv : st1 L (i : Nat) (.int x) = some L') (kk : gG X y Z (pc + 1) L' st Ls M k n) : gG X y Z pc L (.int x :: st) Ls M k n := fun hn H locs ls hl hz hp hs => lv_istore_n hZ.ex hZ.by hd rfl hl.has (by rw [← hn]; exact of_decide_eq_true hi) rfl (fun ls' hl' => kk ((st1_len hv).trans hn) H locs ls' (LH_st1 hv hn hl') hz hp hs)
theorem g_astore_n (hZ : Gx X bs y d mc ms Z) {i : Fin 4} {x : Nat} (hd : decode y.2.1 pc = .ok (.astore_n i, 1)) (hi : decide ((i : Nat) < L.length) = true) (hv : st1 L (i : Nat) (.ref x) = some L') (kk : gG X y Z (pc + 1) L' st Ls M k n) : gG X y Z pc L (.ref x :: st) Ls M k n := fun hn H locs ls hl hz hp hs => lv_astore_n hZ.ex hZ.by hd rfl hl.has (by rw [← hn]; exact of_decide_eq_true hi) rfl (fun ls' hl' => kk ((st1_len hv).trans hn) H locs ls' (LH_st1 hv hn hl') hz hp hs)
theorem g_iinc (hZ : Gx X bs y d mc ms Z) {i : Nat} {e a : Int} (hd : decode y.2.1 pc = .ok (.iinc i e, 3)) (hx : L[i]? = some (.int (iv a))) (hv : st1 L i (.int (iv (a + e))) = some L') (kk : gG X y Z (pc + 3) L' st Ls M k n) : gG X y Z pc L st Ls M k n := fun hn H locs ls hl hz hp hs => by
  obtain ⟨q, hq⟩ := List.getElem?_of_mem (enP_mem.mpr ⟨hx, by simp⟩)
  exact lv_iinc hZ.ex hZ.by hd hl.has hq (iv_add a e) (by rw [← hn]; exact (List.getElem?_eq_some_iff.mp hx).1) rfl (fun ls' hl' => kk ((st1_len hv).trans hn) H locs ls' (LH_st1 hv hn hl') hz hp hs)
theorem g_obj (hZ : Gx X bs y (d + 1) mc ms Z) {ix a : Nat} (hd : decode y.2.1 pc = .ok (.invokespecial ix, 3)) (hw : Cond.methodLink y.1.cls ix Lib.objectInit ∈ tb) (hr : (st.map fun v => v.category).sum ≤ 8) (kk : gG X y Z (pc + 3) L st Ls M k n) : gG X y Z pc L (.ref a :: st) Ls M k n := fun hn H locs ls hl hz hp hs => by
  obtain ⟨r1, r2, r3, r4⟩ := hZ.rm
  refine W.objInit hZ.ex hZ.by hZ.own (hZ.ts _ hw) (hZ.ts _ (tb_in 87 (by decide +kernel) (by decide +kernel))) (hZ.ts _ (tb_in 88 (by decide +kernel) (by decide +kernel))) rfl (by rw [hZ.ml]; exact hl.1) rfl hd (by omega) (by show 2 * 0 + _ + 12 ≤ _; omega) ?_
  exact kk hn H locs ls hl hz hp hs
/-! a field that is read, written; an array's item -/
theorem g_getR (hZ : Gx X bs y d mc ms Z) {c ci kf ix N t : Nat} {T : u_T} {C : String} {fs : List (Nat × Nat × Nat)} (hd : decode y.2.1 pc = .ok (.getfield ix, 3)) (hcl : vwCl[ci]? = some (C, T, N)) (hk : kf < N) (hin : ∀ w ∈ u_ws C T N, w ∈ tb) (hw : Cond.fieldLink y.1.cls ix (T kf).1 (T kf).2.1 (T kf).2.2.1 ∈ tb) (hc : Ls[c]? = some (3, ci, fs)) (hf : fs[kf]? = some (kf, 1, t)) (kk : gG X y Z (pc + 3) L (.ref (xa X t) :: st) Ls M k n) : gG X y Z pc L (.ref (xa X c) :: st) Ls M k n := fun hn H locs ls hl hz hp hs =>
  va_get hZ.ex hZ.by hZ.ts hin hZ.own hZ.K hp c (gw_at hc) hcl kf hk (hZ.ts _ hw) (fun _ h => h) (show (fs.map (gval X (M c)))[kf]? = some (.ref (xa X t)) by rw [List.getElem?_map, hf]; rfl) hd (kk hn H locs ls hl hz hp hs)
theorem g_putF (hZ : Gx X bs y d mc ms Z) {c ci kf ix N t : Nat} {T : u_T} {C : String} {fs : List (Nat × Nat × Nat)} (ty : Nat → FieldType) (hty : ∀ k, k < N → parseFieldDescriptor (T k).2.2.1 = some (ty k)) (hnm : ∀ a, a < N → ∀ b, b < N → a ≠ b → (T a).2.1 ≠ (T b).2.1) (hd : decode y.2.1 pc = .ok (.putfield ix, 3)) (hcl : vwCl[ci]? = some (C, T, N)) (hk : kf < N) (hin : ∀ w ∈ u_ws C T N, w ∈ tb) (hw : Cond.fieldLink y.1.cls ix (T kf).1 (T kf).2.1 (T kf).2.2.1 ∈ tb) (hfin : (T kf).2.2.2 = true) (hdecl : (T kf).1 = y.1.cls) (hm : (zt Z).name = y.1.name) (hnm0 : y.1.name = "<init>") (hfit : narrow (ty kf) (.ref (xa X t)) = .ref (xa X t) ∧ fits (ty kf) (.ref (xa X t)) = true) (hc : Ls[c]? = some (3, ci, fs)) (hlen : kf < fs.length)
    (kk : gG X y Z (pc + 3) L st (Ls.set c (3, ci, fs.set kf (kf, 1, t))) M k n) : gG X y Z pc L (.ref (xa X t) :: .ref (xa X c) :: st) Ls M k n := fun hn H locs ls hl hz hp hs => by
  have hD := hZ.D (Ls := Ls) (M := M)
  have he : (gW X Ls M)[c]? = some (xa X c, .inr (ci, fs.map (gval X (M c)))) := gw_at hc
  have hap := va_apart (own := y.1.cls) hZ.ts hin ty hty hnm hZ.K hcl
  obtain ⟨r, h1, cell, q1, q2, q3, q4⟩ := hp c _ he
  cases h1.symm.trans hcl
  obtain ⟨hS, hfc, kC, hkC, hkind⟩ := hZ.K.1 ci _ hcl
  obtain ⟨cf, kf', fi, f, hi, hsl⟩ := hS kf hk
  have hlay := hZ.ts _ (hin _ (u_in_lay hk))
  unfold u_lay at hlay
  rw [if_pos hfin] at hlay
  have hst := (u_facts hfc hkC (u_lays hZ.ts hin hk) hi).1
  have hcf : (zm Z).cls = cf := by
    obtain ⟨_, _, c', _, _, _, -, -, hf', -, -, -, hown2, -⟩ := Cond.laysFinal_spec hlay
    have e1 : c' = cf := by
      have h9 := hi.symm.trans hf'
      simp at h9
      exact h9.1.symm
    rw [hdecl] at hown2
    rw [← e1]; exact Option.some.inj (hZ.own.symm.trans hown2)
  have h6 := u_fits hfc hkC hkind (Or.inr hlay) hi (hty kf hk) hfit.1 hfit.2
  refine W.putFinK hZ.ex hZ.by hZ.own (hZ.ts _ hw) hi hst hcf (hm.trans hnm0) (by rw [q2]; exact h6) q1 q3 (by rw [hsl]; exact k2_hasslot (q4 kf hk)) rfl rfl hd fun H' e1 e2 e3 => ?_
  rw [hsl] at e1 ⊢
  have hl9 : kf < (fs.map (gval X (M c))).length := by rw [List.length_map]; exact hlen
  have hp1 := hp.set (e := .inr (ci, (fs.map (gval X (M c))).set kf (.ref (xa X t)))) hD he ⟨_, hcl, t_OB.to (V := updV (vp_V (fs.map (gval X (M c)))) kf (.ref (xa X t))) ⟨_, e1, q2, q3, t_set q4 hap hk _⟩ (fun j _ => vp_updV_set hl9 _ j)⟩ e3
  rw [gw_set (M' := M) (q := (3, ci, fs.set kf (kf, 1, t))) (List.getElem?_eq_some_iff.mp hc).1 (fun _ _ => rfl) (by
    show Sum.inr (ci, (fs.set kf (kf, 1, t)).map (gval X (M c))) = _
    rw [List.map_set]; rfl)] at hp1
  exact kk hn H' _ ls hl (by rw [e2, hz, List.length_set]) hp1 (hs.put e2 e3 (hD.2 c _ he))
theorem gfld_set {c kf : Nat} {v : Int} {x : Value} {fs : List (Nat × Nat × Nat)} (hpw : fs.Pairwise (fun a b => a.1 ≠ b.1)) {q : Nat × Nat × Nat} (hq : fs[kf]? = some q) (hk : q.1 = kf) (hx : gval X (up M c kf v c) q = x) : fs.map (gval X (up M c kf v c)) = (fs.map (gval X (M c))).set kf x := by
  apply List.ext_getElem?
  intro j
  rw [List.getElem?_set, List.getElem?_map, List.getElem?_map]
  by_cases e : kf = j
  · subst e
    rw [if_pos rfl, hq, if_pos (by rw [List.length_map]; exact (List.getElem?_eq_some_iff.mp hq).1)]
    exact congrArg some hx
  · rw [if_neg e]
    cases hj : fs[j]? with
    | none => rfl
    | some p =>
      show some (gval X (up M c kf v c) p) = some (gval X (M c) p)
      have hne : p.1 ≠ kf := by
        intro h
        obtain ⟨h1, e1⟩ := List.getElem?_eq_some_iff.mp hq
        obtain ⟨h2, e2⟩ := List.getElem?_eq_some_iff.mp hj
        rcases Nat.lt_or_gt_of_ne e with hlt | hlt
        · exact (List.pairwise_iff_getElem.mp hpw kf j h1 h2 hlt) (by rw [e1, e2, hk, h])
        · exact (List.pairwise_iff_getElem.mp hpw j kf h2 h1 hlt) (by rw [e1, e2, hk, h])
      have e3 : up M c kf v c p.1 = M c p.1 := by unfold up; rw [if_neg (fun z => hne (by exact_mod_cast z.2))]
      unfold gval fval
      rw [e3]
/-- a field that isn't final: an int, a boolean (kind 0), or a reference that changes (kind 3) -/
theorem g_put (hZ : Gx X bs y d mc ms Z) {c ci kf ix N kd : Nat} {T : u_T} {C : String} {fs fs' : List (Nat × Nat × Nat)} {v : Int} {w : Value} (ty : Nat → FieldType) (hty : ∀ k, k < N → parseFieldDescriptor (T k).2.2.1 = some (ty k)) (hnm : ∀ a, a < N → ∀ b, b < N → a ≠ b → (T a).2.1 ≠ (T b).2.1) (hd : decode y.2.1 pc = .ok (.putfield ix, 3)) (hcl : vwCl[ci]? = some (C, T, N)) (hk : kf < N) (hin : ∀ w ∈ u_ws C T N, w ∈ tb) (hw : Cond.fieldLink y.1.cls ix (T kf).1 (T kf).2.1 (T kf).2.2.1 ∈ tb) (hfin : (T kf).2.2.2 = false) (hfit : narrow (ty kf) w = w ∧ fits (ty kf) w = true) (hc : Ls[c]? = some (3, ci, fs)) (hlen : kf < fs.length) (hfs : fs' = fs.set kf (kf, kd, 0)) (hpw : fs.Pairwise (fun a b => a.1 ≠ b.1)) (hfk : (fs[kf]?.map Prod.fst) = some kf) (hval : fval X (fun _ => v) (kf, kd, 0) = w) (hk4 : kd ≠ 4) {M' : fM} (hM : up M c kf v = M')
    (kk : gG X y Z (pc + 3) L st (Ls.set c (3, ci, fs')) M' k n) : gG X y Z pc L (w :: .ref (xa X c) :: st) Ls M k n := fun hn H locs ls hl hz hp hs => by
  subst hM
  have hD := hZ.D (Ls := Ls) (M := M)
  have he : (gW X Ls M)[c]? = some (xa X c, .inr (ci, fs.map (gval X (M c)))) := gw_at hc
  have hap := va_apart (own := y.1.cls) hZ.ts hin ty hty hnm hZ.K hcl
  obtain ⟨r, h1, cell, q1, q2, q3, q4⟩ := hp c _ he
  cases h1.symm.trans hcl
  obtain ⟨hS, hfc, kC, hkC, hkind⟩ := hZ.K.1 ci _ hcl
  obtain ⟨cf, kf', fi, f, hi, hsl⟩ := hS kf hk
  have hlay := hZ.ts _ (hin _ (u_in_lay hk))
  unfold u_lay at hlay
  rw [if_neg (by rw [hfin]; decide)] at hlay
  have hst := (u_facts hfc hkC (u_lays hZ.ts hin hk) hi).1
  have h6 := u_store hfc hkC hkind hlay hi (hty kf hk) hfit.1 hfit.2
  refine W.putK hZ.ex hZ.by (f := f) ⟨hZ.own, hZ.ts _ hw, ⟨_, _, _, hi⟩, hst⟩ (by rw [q2]; exact h6) q1 q3 (by rw [hsl]; exact k2_hasslot (q4 kf hk)) rfl rfl hd fun H' e1 e2 e3 => ?_
  rw [hsl] at e1 ⊢
  have hl9 : kf < (fs.map (gval X (M c))).length := by rw [List.length_map]; exact hlen
  have hp1 := hp.set (e := .inr (ci, (fs.map (gval X (M c))).set kf w)) hD he ⟨_, hcl, t_OB.to (V := updV (vp_V (fs.map (gval X (M c)))) kf w) ⟨_, e1, q2, q3, t_set q4 hap hk _⟩ (fun j _ => vp_updV_set hl9 _ j)⟩ e3
  rw [gw_set (M' := up M c kf v) (q := (3, ci, fs')) (List.getElem?_eq_some_iff.mp hc).1 (fun j hj => up_ne hj) (by
    show Sum.inr (ci, fs'.map (gval X (up M c kf v c))) = _
    obtain ⟨q0, hq0, hq1⟩ := Option.map_eq_some_iff.mp hfk
    have hpw' : fs'.Pairwise (fun a b => a.1 ≠ b.1) := by
      have e : fs'.map Prod.fst = fs.map Prod.fst := by
        rw [hfs, List.map_set]
        apply List.ext_getElem?
        intro j
        rw [List.getElem?_set]
        by_cases ej : kf = j
        · subst ej
          rw [if_pos rfl, if_pos (by rw [List.length_map]; exact hlen), List.getElem?_map, hq0]
          exact congrArg some hq1.symm
        · rw [if_neg ej]
      have h9 : (fs.map Prod.fst).Pairwise (fun a b => a ≠ b) := List.pairwise_map.mpr hpw
      rw [← e] at h9
      exact List.pairwise_map.mp h9
    have hat : fs'[kf]? = some (kf, kd, 0) := by rw [hfs]; exact List.getElem?_set_self hlen
    rw [gfld_set (x := w) hpw' hat rfl (by
      unfold gval
      rw [if_neg hk4, ← hval]
      unfold fval up
      simp)]
    congr 2
    rw [hfs, List.map_set]
    apply List.ext_getElem?
    intro j
    rw [List.getElem?_set, List.getElem?_set, List.getElem?_set]
    by_cases ej : kf = j
    · simp [ej]
    · simp [ej])] at hp1
  exact kk hn H' _ ls hl (by rw [e2, hz, List.length_set]) hp1 (hs.put e2 e3 (hD.2 c _ he))
theorem g_iastore (hZ : Gx X bs y d mc ms Z) {c N : Nat} {fs : List (Nat × Nat × Nat)} {i v : Int} (hd : decode y.2.1 pc = .ok (.iastore, 1)) (hc : Ls[c]? = some (0, N, fs)) (h0 : 0 ≤ i) (h1 : i < N) (hN : (N : Int) < 2147483648) {M' : fM} (hM : up M c i v = M') (kk : gG X y Z (pc + 1) L st Ls M' k n) : gG X y Z pc L (.int (iv v) :: .int (iv i) :: .ref (xa X c) :: st) Ls M k n := fun hn H locs ls hl hz hp hs => by
  subst hM
  have hD := hZ.D (Ls := Ls) (M := M)
  have he : (gW X Ls M)[c]? = some (xa X c, .inl (xI X, N, .inl (fun j => iv (M c j)))) := gw_at hc
  have hlc := (List.getElem?_eq_some_iff.mp hc).1
  refine W.iast hZ.ex hZ.by (hp c _ he) ((hZ.K.2 0 _ rfl).1 N (fun j => .int (iv (M c j)))) (fun q => by cases q) (by show ¬ (iv i < 0 ∨ (arrV _ _ _).slots.size ≤ _); rw [arrV_size]; exact iv_in h0 h1 hN) rfl rfl hd fun H1 e z oq => ?_
  have hp1 := hp.set (e := .inl (xI X, N, .inl (upd (fun j : Nat => iv (M c j)) i.toNat (iv v)))) hD he (by
    show H1[xa X c]? = some (vp_cell _ _)
    rw [e, iv_clamp h0 ⟨by omega, by omega⟩]
    rw [vp_cell_i, vp_cell_i, arrV_store]
    congr 2
    funext q
    by_cases hq : q = i.toNat
    · subst hq
      simp [updV, upd]
    · simp [updV, upd, hq]) oq
  have hset := gw_set (X := X) (M := M) (M' := up M c i v) (q := (0, N, fs)) (e := .inl (xI X, N, .inl (fun j : Nat => iv (up M c i v c j)))) hlc (fun j hj => up_ne hj) rfl
  have hself : Ls.set c (0, N, fs) = Ls := by
    apply List.ext_getElem?
    intro j
    rw [List.getElem?_set]
    by_cases e : c = j
    · subst e
      rw [if_pos rfl, if_pos hlc, hc]
    · rw [if_neg e]
  rw [← up_upd (M := M) (c := c) h0 _ rfl, hset, hself] at hp1
  exact kk hn H1 _ ls hl (by rw [z, hz]) hp1 (hs.put z oq (hD.2 c _ he))
theorem g_aaload (hZ : Gx X bs y d mc ms Z) {c N b p q : Nat} {i : Int} (hd : decode y.2.1 pc = .ok (.aaload, 1)) (hc : Ls[c]? = some (2, N, [(b, p, q)])) (h0 : 0 ≤ i) (h1 : i < N) (hN : (N : Int) < 2147483648) (kk : gG X y Z (pc + 1) L (.ref (xa X (b + i.toNat)) :: st) Ls M k n) : gG X y Z pc L (.int (iv i) :: .ref (xa X c) :: st) Ls M k n := fun hn H locs ls hl hz hp hs => by
  have hlt : (iv i).toNatClampNeg < N := by rw [iv_clamp h0 ⟨by omega, by omega⟩]; omega
  have ha : (gW X Ls M)[c]? = some (xa X c, .inl (xA X, N, .inr (.inr (.inr (.inr (fun j => if j < N then some (xa X (b + j)) else none)))))) := gw_at hc
  refine W.aald (v := va_rf ((fun j => if j < N then some (xa X (b + j)) else none) (iv i).toNatClampNeg)) (ty := .array .int) hZ.ex hZ.by (hp c _ ha) ((hZ.K.2 2 _ rfl).1 N (fun j => va_rf ((fun j => if j < N then some (xa X (b + j)) else none) j))) rfl (fun q => by cases q) (by show ¬ (iv i < 0 ∨ (arrV _ _ _).slots.size ≤ _); rw [arrV_size]; exact iv_in h0 h1 hN) (by show (arrV _ _ _).slots[_]? = _; rw [arrV_read _ _ hlt]) rfl rfl hd ?_
  show W _ _ _ _ _ _ _ _ _ _ _ _ _ _ _ (F0 _ (pc + 1) ls (va_rf (if (iv i).toNatClampNeg < N then _ else _) :: st))
  rw [if_pos hlt, iv_clamp h0 ⟨by omega, by omega⟩]
  exact kk hn H locs ls hl hz hp hs
/-! new cells -/
theorem g_newI (hZ : Gx X bs y d mc ms Z) {N z : Nat} {a : Int} (ha : a = (N : Int)) (hd : decode y.2.1 pc = .ok (.newarray .int, 2)) (hk : k + 1 ≤ mc) (hn1 : n + N ≤ ms) (hb : N * 4 ≤ 536870912) (hz0 : Ls.length = z) (h0 : ∀ i, M z i = 0) (kk : gG X y Z (pc + 2) L (.ref (xa X z) :: st) (Ls ++ [(0, N, [])]) M (k + 1) (n + N)) : gG X y Z pc L (.int (iv a) :: st) Ls M k n := fun hn H locs ls hl hz hp hs => by
  obtain ⟨r1, r2, r3, r4⟩ := hZ.rm
  subst ha
  have h4 : (N : Int) < 2147483648 := by omega
  rw [hz0] at hz
  refine va_newaK (atype := .int) hZ.ex hZ.by (hZ.ts _ (tb_in 137 (by decide +kernel) (by decide +kernel))) rfl hd rfl (fun q => by rw [← iv_0, iv_lt ⟨by omega, by omega⟩ rg_0] at q; omega) (by rw [iv_clamp (by omega) ⟨by omega, by omega⟩]; omega) hb (by omega) (by omega) hz fun H1 cA e1 z1 o1 hAr hNm => ?_
  have hc : cA = xI X := Option.some.inj (hNm.symm.trans (hZ.K.2 0 _ rfl).2)
  subst hc
  have hx := hZ.x
  refine kk hn H1 locs ls hl (by rw [z1, List.length_append, hx, hx, hz0]; rfl) (gw_new hz0 hp hz o1 ?_) ⟨Nat.le_trans hs.1 (by omega), fun x h1 h2 => (o1 x (by rw [← hz]; exact Nat.lt_of_lt_of_le h1 hs.1)).trans (hs.2.1 x h1 h2), hs.2.2⟩
  show H1[xa X z]? = some (vp_cell (xI X) (N, .inl (fun j : Nat => iv (M z j))))
  rw [e1, vp_cell_i]
  refine congrArg (fun f => some (arrV (xI X) N f)) ?_
  funext j
  rw [h0]; rfl
theorem g_newZ (hZ : Gx X bs y d mc ms Z) {N z : Nat} {a : Int} (ha : a = (N : Int)) (hd : decode y.2.1 pc = .ok (.newarray .boolean, 2)) (hk : k + 1 ≤ mc) (hn1 : n + N ≤ ms) (hb : N * 4 ≤ 536870912) (hz0 : Ls.length = z) (h0 : ∀ i, M z i = 0) (kk : gG X y Z (pc + 2) L (.ref (xa X z) :: st) (Ls ++ [(1, N, [])]) M (k + 1) (n + N)) : gG X y Z pc L (.int (iv a) :: st) Ls M k n := fun hn H locs ls hl hz hp hs => by
  obtain ⟨r1, r2, r3, r4⟩ := hZ.rm
  subst ha
  have h4 : (N : Int) < 2147483648 := by omega
  rw [hz0] at hz
  refine va_newaK (atype := .boolean) hZ.ex hZ.by (hZ.ts _ (tb_in 999 (by decide +kernel) (by decide +kernel))) rfl hd rfl (fun q => by rw [← iv_0, iv_lt ⟨by omega, by omega⟩ rg_0] at q; omega) (by rw [iv_clamp (by omega) ⟨by omega, by omega⟩]; omega) (Nat.le_trans (show N * 1 ≤ N * 4 by omega) hb) (by omega) (by omega) hz fun H1 cA e1 z1 o1 hAr hNm => ?_
  have hc : cA = xZ X := Option.some.inj (hNm.symm.trans (hZ.K.2 1 _ rfl).2)
  subst hc
  have hx := hZ.x
  refine kk hn H1 locs ls hl (by rw [z1, List.length_append, hx, hx, hz0]; rfl) (gw_new hz0 hp hz o1 ?_) ⟨Nat.le_trans hs.1 (by omega), fun x h1 h2 => (o1 x (by rw [← hz]; exact Nat.lt_of_lt_of_le h1 hs.1)).trans (hs.2.1 x h1 h2), hs.2.2⟩
  show H1[xa X z]? = some (vp_cell (xZ X) (N, .inl (fun j : Nat => iv (M z j))))
  rw [e1, vp_cell_i]
  refine congrArg (fun f => some (arrV (xZ X) N f)) ?_
  funext j
  rw [h0]; rfl
def gv0 (q : Nat × Nat × Nat) : Value := if q.2.1 = 4 then .null else if q.2.1 = 2 then .long 0 else .int 0
theorem gv0_eq {X : fX} {f : Int → Int} (hf : ∀ i, f i = 0) {fs : List (Nat × Nat × Nat)} (h : ∀ q, q ∈ fs → q.2.1 = 0 ∨ q.2.1 = 2 ∨ q.2.1 = 4) : fs.map (gval X f) = fs.map gv0 := List.map_congr_left (fun q hq => by
  unfold gval gv0 fval
  rcases h q hq with e | e | e <;> simp [e, hf] <;> rfl)
theorem g_new (hZ : Gx X bs y d mc ms Z) {ci ix N z : Nat} {T : u_T} {C : String} {fs : List (Nat × Nat × Nat)} (ty : Nat → FieldType) (hty : ∀ k, k < N → parseFieldDescriptor (T k).2.2.1 = some (ty k)) (hd : decode y.2.1 pc = .ok (.new ix, 3)) (hcl : vwCl[ci]? = some (C, T, N)) (hin : ∀ w ∈ u_ws C T N, w ∈ tb) (hcw : Cond.classLink y.1.cls ix C ∈ tb) (hiw : Cond.instantiable C N ∈ tb) (hini : Cond.initialized C ∈ tb) (hfs : ∀ j, j < N → defaultValue (ty j) = vp_V (fs.map gv0) j) (hkd : ∀ q, q ∈ fs → q.2.1 = 0 ∨ q.2.1 = 2 ∨ q.2.1 = 4) (hk : k + 1 ≤ mc) (hn1 : n + N ≤ ms) (hz0 : Ls.length = z) (h0 : ∀ i, M z i = 0) (kk : gG X y Z (pc + 3) L (.ref (xa X z) :: st) (Ls ++ [(3, ci, fs)]) M (k + 1) (n + N)) : gG X y Z pc L st Ls M k n := fun hn H locs ls hl hz hp hs => by
  obtain ⟨r1, r2, r3, r4⟩ := hZ.rm
  rw [hz0] at hz
  have hKn := hZ.K.1 ci _ hcl
  refine W.newcK hZ.ex hZ.by hZ.own (hZ.ts _ hcw) (hZ.ts _ hiw) (hZ.ts _ hini) rfl hd (by omega) (by omega) hKn.2.1 hz fun H1 kC hkC e1 z1 o1 => ?_
  have hx := hZ.x
  refine kk hn H1 locs ls hl (by rw [z1, List.length_append, hx, hx, hz0]; rfl) (gw_new hz0 hp hz o1 ?_) ⟨Nat.le_trans hs.1 (by omega), fun x h1 h2 => (o1 x (by rw [← hz]; exact Nat.lt_of_lt_of_le h1 hs.1)).trans (hs.2.1 x h1 h2), hs.2.2⟩
  show ∃ r : vw_C, vwCl[ci]? = some r ∧ t_OB (xa X z) ((xD X).1 ci) r.2.2 ((xD X).2 ci) H1 (vp_V (fs.map (gval X (M z))))
  rw [gv0_eq h0 hkd]
  exact ⟨_, hcl, (u_born ty hZ.ts hin hKn hkC e1 hty).to hfs⟩
end GR
