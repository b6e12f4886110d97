/-! THE JUDGEMENTS: memory, world, a point in a method (fG), a method's contract (fC) -/
abbrev fX : Type := Launch × va_G × (Nat → Nat) × ClassId × ClassId × ClassId × (Nat → Nat) × (Nat → Nat) × Nat
abbrev xl (X : fX) : Launch := X.1
abbrev xD (X : fX) : va_G := X.2.1
abbrev xa (X : fX) : Nat → Nat := X.2.2.1
abbrev xI (X : fX) : ClassId := X.2.2.2.1
abbrev xZ (X : fX) : ClassId := X.2.2.2.2.1
abbrev xA (X : fX) : ClassId := X.2.2.2.2.2.1
abbrev xK (X : fX) : Nat → Nat := X.2.2.2.2.2.2.1
abbrev xV (X : fX) : Nat → Nat := X.2.2.2.2.2.2.2.1
abbrev xT (X : fX) : Nat := X.2.2.2.2.2.2.2.2
abbrev fM : Type := Nat → Int → Int
def up (M : fM) (c : Nat) (i v : Int) : fM := fun c' i' => if c' = c ∧ i' = i then v else M c' i'
def Can (M : fM) : Prop := ∀ (c : Nat) (i : Int), rg (M c i)
theorem Can_up {M : fM} (h : Can M) {c : Nat} {i v : Int} (hv : rg v) : Can (up M c i v) := fun c' i' => by
  unfold up
  split
  · exact hv
  · exact h c' i'
def lay (c : Nat) : Nat × Nat × List (Nat × Nat × Nat) := layL.getD c (9, 0, [])
def fval (X : fX) (f : Int → Int) (q : Nat × Nat × Nat) : Value := match q.2.1 with
  | 0 => .int (iv (f q.1))
  | 1 => .ref (xa X q.2.2)
  | 2 => .long (jv (f q.1))
  | _ => .ref (xa X (f q.1).toNat)
def ce (X : fX) (f : Int → Int) (q : Nat × Nat × List (Nat × Nat × Nat)) : va_E := match q.1 with
  | 0 => .inl (xI X, q.2.1, .inl (fun j => iv (f j)))
  | 1 => .inl (xZ X, q.2.1, .inl (fun j => iv (f j)))
  | 2 => .inl (xA X, q.2.1, .inr (.inr (.inr (.inr (fun j => if j < q.2.1 then some (xa X ((q.2.2.headD (0, 0, 0)).1 + j)) else none)))))
  | _ => .inr (q.2.1, q.2.2.map (fval X f))
def wsOf (X : fX) (M : fM) : va_W := (List.range nC).map (fun c => (xa X c, ce X (M c) (lay c)))
theorem ws_at {X : fX} {M : fM} {c : Nat} (h : c < nC) : (wsOf X M)[c]? = some (xa X c, ce X (M c) (lay c)) := by
  simp only [wsOf, List.getElem?_map, List.getElem?_range h, Option.map_some]
theorem ws_lt {X : fX} {M : fM} {c : Nat} {q : Nat × va_E} (h : (wsOf X M)[c]? = some q) : c < nC := by
  have := (List.getElem?_eq_some_iff.mp h).1
  simpa [wsOf] using this
theorem ws_set {X : fX} {M M' : fM} {c : Nat} {e : va_E} (hc : c < nC) (h1 : ∀ k, k ≠ c → M' k = M k) (h2 : ce X (M' c) (lay c) = e) : (wsOf X M).set c (xa X c, e) = wsOf X M' := by
  apply List.ext_getElem?
  intro k
  by_cases hk : k < nC
  · rw [ws_at hk, List.getElem?_set]
    by_cases e1 : c = k
    · subst e1
      rw [if_pos rfl, if_pos (by simpa [wsOf] using hk), h2]
    · rw [if_neg e1, ws_at hk, h1 k (fun h => e1 h.symm)]
  · rw [List.getElem?_eq_none (by simpa [wsOf] using hk), List.getElem?_eq_none (by simpa [wsOf] using hk)]
def tysOf (X : fX) : List (ClassId × FieldType) := [(xI X, .int), (xZ X, .boolean), (xA X, .array .int)]
def Aw (X : fX) : Nat → Prop := fun q => ∃ c, c < nC ∧ q = xa X c
def Inj (X : fX) : Prop := ∀ i j, i < nC → j < nC → xa X i = xa X j → i = j
theorem ws_D {X : fX} {M : fM} {A : Nat → Prop} (hi : Inj X) (hA : ∀ c, c < nC → A (xa X c)) : va_D A (wsOf X M) := by
  refine ⟨fun i j p q hp hq e => ?_, fun k q hq => ?_⟩
  · have h1 := ws_lt hp
    have h2 := ws_lt hq
    rw [ws_at h1] at hp
    rw [ws_at h2] at hq
    cases hp
    cases hq
    exact hi i j h1 h2 e
  · have h1 := ws_lt hq
    rw [ws_at h1] at hq
    cases hq
    exact hA k h1
/-! what stands outside the world and is never written: the table ABOVE, the texts of the words -/
def aboveL : List Int := [-1, 0, 0, 1, 2, 1]
def wordT : List (Nat × String) := [(101, "parts"), (107, "damp"), (109, "lit"), (111, "burnt"), (113, "wick"), (115, "span"), (117, "costs"), (119, "worth"), (121, "drift"), (123, "or"), (125, "and"), (127, "not")]
def wordL : List (List Int32) := [[112, 97, 114, 116, 115], [100, 97, 109, 112], [108, 105, 116], [98, 117, 114, 110, 116], [119, 105, 99, 107], [115, 112, 97, 110], [99, 111, 115, 116, 115], [119, 111, 114, 116, 104], [100, 114, 105, 102, 116], [111, 114], [97, 110, 100], [110, 111, 116]]
def fS (X : fX) (A : Nat → Prop) (U : State) (H : Heap) : Prop :=
  va_Z "ByTheFlame" "ABOVE" "[I" (.ref (xT X)) A U H ∧ va_T .int (xT X) 6 (fun j => .int (iv (aboveL.getD j 0))) A U H ∧
  vk_S 12 (wordL.map List.length) wordL (xK X) (xV X) A U H ∧ va_Z "java/lang/String" "COMPACT_STRINGS" "Z" (.int 1) A U H ∧ va_Zq "jdk/internal/util/Preconditions" "SIOOBE_FORMATTER" "Ljava/util/function/BiFunction;" A U H ∧
  ∀ i, i < 12 → vk_R "ByTheFlame$Reader" (wordT.getD i (0, "")).1 (wordT.getD i (0, "")).2 (xK X i) U
theorem fS.warm {X : fX} {A : Nat → Prop} {u U : State} {H : Heap} (hW : u.WarmedH U.vm) (h : fS X A u H) : fS X A U H :=
  ⟨h.1.moved hW.alike, h.2.1.moved hW.alike, h.2.2.1.moved hW.alike, h.2.2.2.1.moved hW.alike, h.2.2.2.2.1.moved hW.alike, fun i hi => (h.2.2.2.2.2 i hi).warm hW⟩
theorem fS.same {X : fX} {A : Nat → Prop} {u U : State} {H : Heap} (hv : U.vm = u.vm) (h : fS X A u H) : fS X A U H := by
  have ha : u.vm.Alike U.vm := by rw [hv]; exact Vm.Alike.refl u.vm
  exact ⟨h.1.moved ha, h.2.1.moved ha, h.2.2.1.moved ha, h.2.2.2.1.moved ha, h.2.2.2.2.1.moved ha, fun i hi => (h.2.2.2.2.2 i hi).same hv⟩
theorem fS.kept {X : fX} {A : Nat → Prop} {U : State} {H H1 : Heap} (h : fS X A U H) (hq : ∀ a : Nat, a < H.size → ¬ A a → H1[a]? = H[a]?) : fS X A U H1 :=
  ⟨h.1.kept hq, h.2.1.kept hq, h.2.2.1.kept hq, h.2.2.2.1.kept hq, h.2.2.2.2.1.kept hq, h.2.2.2.2.2⟩
theorem fS.narrow {X : fX} {A B : Nat → Prop} {U : State} {H : Heap} (h : fS X A U H) (hAB : ∀ q, B q → A q) : fS X B U H :=
  ⟨h.1.narrow hAB, h.2.1.narrow hAB, h.2.2.1.narrow hAB, h.2.2.2.1.narrow hAB, h.2.2.2.2.1.narrow hAB, h.2.2.2.2.2⟩
/-! the tables' words that a caller hands on -/
def tb : List Cond := lw_tbl.filter goodWord
theorem tb_in {w : Cond} (i : Nat) (h : lw_tbl[i]? = some w) (hg : goodWord w = true) : w ∈ tb := List.mem_filter.mpr ⟨List.mem_of_getElem? h, hg⟩
/-! a method: its name, its bytes, its locals, its answer's type -/
abbrev fY : Type := MethodName × ByteArray × Nat × Option FieldType
def wsy (y : fY) : List Cond := .code y.1 y.2.1 y.2.2.1 y.2.2.2 :: tb
def rm (d : Nat) : Room := { frames := d, cells := 0, slots := 0, locals := 40 * d }
/-! where a walk stands: everything that stays the same while one method runs -/
abbrev fZ : Type := Program × Env × State × MethodId × Array Value × List Frame × Method × Code × (Nat → Prop) × Room × (State → Prop) × Nat × Nat
abbrev zp (Z : fZ) : Program := Z.1
abbrev ze (Z : fZ) : Env := Z.2.1
abbrev zs (Z : fZ) : State := Z.2.2.1
abbrev zm (Z : fZ) : MethodId := Z.2.2.2.1
abbrev zg (Z : fZ) : Array Value := Z.2.2.2.2.1
abbrev zb (Z : fZ) : List Frame := Z.2.2.2.2.2.1
abbrev zt (Z : fZ) : Method := Z.2.2.2.2.2.2.1
abbrev zc (Z : fZ) : Code := Z.2.2.2.2.2.2.2.1
abbrev zA (Z : fZ) : Nat → Prop := Z.2.2.2.2.2.2.2.2.1
abbrev zR (Z : fZ) : Room := Z.2.2.2.2.2.2.2.2.2.1
abbrev zQ (Z : fZ) : State → Prop := Z.2.2.2.2.2.2.2.2.2.2.1
abbrev zk (Z : fZ) : Nat := Z.2.2.2.2.2.2.2.2.2.2.2.1
abbrev zn (Z : fZ) : Nat := Z.2.2.2.2.2.2.2.2.2.2.2.2
def Cx (X : fX) (y : fY) (d : Nat) (Z : fZ) : Prop :=
  (zp Z).tables.exec = Jvm.exec ∧ (zc Z).code = y.2.1 ∧ (zc Z).maxLocals = y.2.2.1 ∧ (zs Z).vm.findClass y.1.cls = some (zm Z).cls ∧ (∀ w ∈ tb, w.before (zg Z) (zs Z) = true) ∧ va_K (xD X) vwCl (tysOf X) (zs Z) ∧ fS X (zA Z) (zs Z) (zs Z).heap ∧ (∀ c, c < nC → zA Z (xa X c)) ∧ Inj X ∧ d ≤ (zR Z).frames ∧ 40 * d ≤ (zR Z).locals ∧ zk Z ≤ (zR Z).cells ∧ zn Z ≤ (zR Z).slots
theorem Cx.ex {X : fX} {y : fY} {d : Nat} {Z : fZ} (h : Cx X y d Z) : (zp Z).tables.exec = Jvm.exec := h.1
theorem Cx.by {X : fX} {y : fY} {d : Nat} {Z : fZ} (h : Cx X y d Z) : (zc Z).code = y.2.1 := h.2.1
theorem Cx.ml {X : fX} {y : fY} {d : Nat} {Z : fZ} (h : Cx X y d Z) : (zc Z).maxLocals = y.2.2.1 := h.2.2.1
theorem Cx.own {X : fX} {y : fY} {d : Nat} {Z : fZ} (h : Cx X y d Z) : (zs Z).vm.findClass y.1.cls = some (zm Z).cls := h.2.2.2.1
theorem Cx.ts {X : fX} {y : fY} {d : Nat} {Z : fZ} (h : Cx X y d Z) : ∀ w ∈ tb, w.before (zg Z) (zs Z) = true := h.2.2.2.2.1
theorem Cx.K {X : fX} {y : fY} {d : Nat} {Z : fZ} (h : Cx X y d Z) : va_K (xD X) vwCl (tysOf X) (zs Z) := h.2.2.2.2.2.1
theorem Cx.S {X : fX} {y : fY} {d : Nat} {Z : fZ} (h : Cx X y d Z) : fS X (zA Z) (zs Z) (zs Z).heap := h.2.2.2.2.2.2.1
theorem Cx.A {X : fX} {y : fY} {d : Nat} {Z : fZ} (h : Cx X y d Z) : ∀ c, c < nC → zA Z (xa X c) := h.2.2.2.2.2.2.2.1
theorem Cx.inj {X : fX} {y : fY} {d : Nat} {Z : fZ} (h : Cx X y d Z) : Inj X := h.2.2.2.2.2.2.2.2.1
theorem Cx.rm {X : fX} {y : fY} {d : Nat} {Z : fZ} (h : Cx X y d Z) : d ≤ (zR Z).frames ∧ 40 * d ≤ (zR Z).locals ∧ zk Z ≤ (zR Z).cells ∧ zn Z ≤ (zR Z).slots := h.2.2.2.2.2.2.2.2.2
theorem Cx.D {X : fX} {y : fY} {d : Nat} {Z : fZ} (h : Cx X y d Z) {M : fM} : va_D (zA Z) (wsOf X M) := ws_D h.inj h.A
/-- the locals: what L says of each place (null: nothing) -/
def LH (nL : Nat) (L : List Value) (ls : Array Slot) : Prop := ls.size = nL ∧ lv_wf ls ∧ ∀ (i : Nat) (v : Value), L[i]? = some v → v ≠ .null → ls[i]? = some (.val v)
theorem LH.at {nL : Nat} {L : List Value} {ls : Array Slot} (h : LH nL L ls) {i : Nat} {v : Value} (hv : L[i]? = some v) (hn : v ≠ .null) : ls[i]? = some (.val v) := h.2.2 i v hv hn
def enP (L : List Value) : List (Nat × Value) := (List.range L.length).filterMap (fun (i : Nat) => match (L[i]? : Option Value) with
  | some .null => none
  | some v => some (i, v)
  | none => none)
theorem enP_mem {L : List Value} {i : Nat} {v : Value} : (i, v) ∈ enP L ↔ L[i]? = some v ∧ v ≠ .null := by
  unfold enP
  rw [List.mem_filterMap]
  constructor
  · rintro ⟨j, -, hj⟩
    cases hL : L[j]? with
    | none => rw [hL] at hj; cases hj
    | some w =>
      rw [hL] at hj
      cases w <;> simp at hj <;> (obtain ⟨rfl, rfl⟩ := hj; exact ⟨hL, by simp⟩)
  · rintro ⟨h1, h2⟩
    refine ⟨i, List.mem_range.mpr (List.getElem?_eq_some_iff.mp h1).1, ?_⟩
    rw [h1]
    cases v <;> simp_all
theorem LH.has {nL : Nat} {L : List Value} {ls : Array Slot} (h : LH nL L ls) : lv_has ls nL (enP L) := ⟨h.1, h.2.1, fun q hq => by
  obtain ⟨i, v⟩ := q
  obtain ⟨h1, h2⟩ := enP_mem.mp hq
  exact h.2.2 i v h1 h2⟩
/-- a store of one word, of two -/
def st1 (L : List Value) (i : Nat) (v : Value) : Option (List Value) := match i with
  | 0 => some (L.set 0 v)
  | k + 1 => match L[k]? with
    | some (.long _) => none
    | some (.double _) => none
    | _ => some (L.set (k + 1) v)
def st2 (L : List Value) (i : Nat) (v : Value) : Option (List Value) := (st1 L i v).map (fun L' => L'.set (i + 1) .null)
theorem st1_spec {L L' : List Value} {i : Nat} {v : Value} (h : st1 L i v = some L') : L' = L.set i v ∧ ∀ j w, j + 1 = i → L[j]? = some w → w.category = 2 → False := by
  unfold st1 at h
  cases i with
  | zero => exact ⟨(Option.some.inj h).symm, fun j w e => by omega⟩
  | succ k =>
    simp only at h
    split at h
    · cases h
    · cases h
    · next h1 h2 =>
      refine ⟨(Option.some.inj h).symm, fun j w e hw hc => ?_⟩
      have e2 : j = k := by omega
      subst e2
      cases w <;> simp [Value.category] at hc <;> first | exact h1 _ hw | exact h2 _ hw
theorem LH_st1 {nL : Nat} {L L' : List Value} {i : Nat} {v : Value} (hs : st1 L i v = some L') (hL : L.length = nL) {ls' : Array Slot}
    (h : lv_has ls' nL ((i, v) :: (enP L).filter (fun q => !(q.1 == i) && !(q.1 + 1 == i && q.2.category == 2)))) : LH nL L' ls' := by
  obtain ⟨rfl, hb⟩ := st1_spec hs
  refine ⟨h.1, h.2.1, fun j w hj hw => ?_⟩
  rw [List.getElem?_set] at hj
  by_cases e : i = j
  · subst e
    rw [if_pos rfl] at hj
    split at hj
    · cases hj
      exact h.2.2 (i, v) List.mem_cons_self
    · cases hj
  · rw [if_neg e] at hj
    refine h.2.2 (j, w) (List.mem_cons_of_mem _ (List.mem_filter.mpr ⟨enP_mem.mpr ⟨hj, hw⟩, ?_⟩))
    have e1 : (j == i) = false := by simpa using fun h => e h.symm
    simp only [e1, Bool.not_false, Bool.true_and, Bool.not_eq_true', Bool.and_eq_false_iff, beq_eq_false_iff_ne]
    by_cases e2 : j + 1 = i
    · exact Or.inr fun hc => hb j w e2 hj hc
    · exact Or.inl e2
theorem LH_st2 {nL : Nat} {L L' : List Value} {i : Nat} {v : Value} (hs : st2 L i v = some L') (hL : L.length = nL) {ls' : Array Slot}
    (h : lv_has ls' nL ((i, v) :: (enP L).filter (fun q => !(q.1 == i) && (!(q.1 == i + 1) && !(q.1 + 1 == i && q.2.category == 2))))) : LH nL L' ls' := by
  unfold st2 at hs
  cases h1 : st1 L i v with
  | none => rw [h1] at hs; cases hs
  | some L1 =>
    rw [h1] at hs
    cases hs
    obtain ⟨rfl, hb⟩ := st1_spec h1
    refine ⟨h.1, h.2.1, fun j w hj hw => ?_⟩
    rw [List.getElem?_set] at hj
    by_cases e0 : i + 1 = j
    · subst e0
      rw [if_pos rfl] at hj
      split at hj
      · cases hj
        exact absurd rfl hw
      · cases hj
    · rw [if_neg e0, List.getElem?_set] at hj
      by_cases e : i = j
      · subst e
        rw [if_pos rfl] at hj
        split at hj
        · cases hj
          exact h.2.2 (i, v) List.mem_cons_self
        · cases hj
      · rw [if_neg e] at hj
        refine h.2.2 (j, w) (List.mem_cons_of_mem _ (List.mem_filter.mpr ⟨enP_mem.mpr ⟨hj, hw⟩, ?_⟩))
        have e1 : (j == i) = false := by simpa using fun h => e h.symm
        have e3 : (j == i + 1) = false := by simpa using fun h => e0 h.symm
        simp only [e1, e3, Bool.not_false, Bool.true_and, Bool.not_eq_true', Bool.and_eq_false_iff, beq_eq_false_iff_ne]
        by_cases e2 : j + 1 = i
        · exact Or.inr fun hc => hb j w e2 hj hc
        · exact Or.inl e2
/-- a point in a method -/
def fG (X : fX) (y : fY) (Z : fZ) (pc : Nat) (L st : List Value) (M : fM) : Prop :=
  Can M → L.length = y.2.2.1 → ∀ (H : Heap) (locs : List Loc) (ls : Array Slot), LH y.2.2.1 L ls → va_P (xD X) vwCl (wsOf X M) H → va_S (zA Z) (zs Z).heap H locs →
    W (zp Z) (xl X) (ze Z) (zR Z) (zs Z) (zm Z) (zg Z) (zb Z) (zt Z) (zc Z) H locs (zk Z) (zn Z) (zQ Z) (F0 (zm Z) pc ls st)
/-- a method's end, its contract -/
def fQ (X : fX) (Q : Option Value → fM → Prop) : Array Value → State → Outcome → State → Prop := fun _ st o t =>
  ∃ (r : Option Value) (M' : fM), o = .returned r ∧ Q r M' ∧ Can M' ∧ va_P (xD X) vwCl (wsOf X M') t.heap ∧ va_F (Aw X) st t
def fB (X : fX) (M : fM) (U : State) : Prop := Inj X ∧ va_P (xD X) vwCl (wsOf X M) U.heap ∧ va_K (xD X) vwCl (tysOf X) U ∧ fS X (Aw X) U U.heap
def fC (X : fX) (d : Nat) (y : fY) (As : List Value) (M : fM) (Q : Option Value → fM → Prop) : Prop :=
  Can M → Met (xl X) y.1 (wsy y) (rm d) (va_Pc As (fB X M)) (fQ X Q) 0 0 (Aw X)
def Rt (X : fX) (y : fY) (Q : Option Value → fM → Prop) (Z : fZ) : Prop :=
  (zt Z).sig.returnType = y.2.2.2 ∧ (zt Z).locks = false ∧ zk Z = 0 ∧ zn Z = 0 ∧ zA Z = Aw X ∧ zQ Z = MQ (zb Z) (fQ X Q) (zg Z) (zs Z) 0 0 (Aw X)
def QI (P : Int → fM → Prop) : Option Value → fM → Prop := fun r M => ∃ a : Int, r = some (.int (iv a)) ∧ rg a ∧ P a M
def QJ (P : Int → fM → Prop) : Option Value → fM → Prop := fun r M => ∃ a : Int, r = some (.long (jv a)) ∧ rj a ∧ P a M
def QV (P : fM → Prop) : Option Value → fM → Prop := fun r M => r = none ∧ P M
/-- the locals with which a method begins -/
def enL : List Value → List Value
  | [] => []
  | v :: vs => if v.category = 2 then v :: .null :: enL vs else v :: enL vs
def enF (As : List Value) (n : Nat) : List Value := enL As ++ List.replicate (n - (enL As).length) .null
theorem enL_args : ∀ (vs : List Value) (k i : Nat) (v : Value), (enL vs)[i]? = some v → v ≠ .null → (k + i, v) ∈ lv_args k vs
  | [], k, i, v, h, _ => by simp [enL] at h
  | w :: vs, k, i, v, h, hn => by
    unfold enL at h
    unfold lv_args
    split at h
    · next hc =>
      rw [if_pos hc]
      match i, h with
      | 0, h => cases h; exact List.mem_cons_self
      | 1, h => cases h; exact absurd rfl hn
      | i + 2, h =>
        have := enL_args vs (k + 2) i v h hn
        rw [show k + (i + 2) = k + 2 + i by omega]
        exact List.mem_cons_of_mem _ this
    · next hc =>
      rw [if_neg hc]
      match i, h with
      | 0, h => cases h; exact List.mem_cons_self
      | i + 1, h =>
        have := enL_args vs (k + 1) i v h hn
        rw [show k + (i + 1) = k + 1 + i by omega]
        exact List.mem_cons_of_mem _ this
theorem enL_len : ∀ vs : List Value, (lg_sl vs).length = (enL vs).length
  | [] => rfl
  | w :: vs => by
    have ih := enL_len vs
    unfold lg_sl at ih ⊢
    unfold enL
    rw [List.flatMap_cons, List.length_append, ih]
    split <;> simp <;> omega
theorem fC.of {X : fX} {d : Nat} {y : fY} {As L : List Value} {M : fM} {Q : Option Value → fM → Prop} (hy : plainName y.1.cls = true) (hL : enF As y.2.2.1 = L) (hn : (enL As).length ≤ y.2.2.1)
    (h : ∀ Z, Cx X y d Z → Rt X y Q Z → fG X y Z 0 L [] M) : fC X d y As M Q := by
  intro hm
  refine Met.ofW (cc := y.2.1) (maxL := y.2.2.1) (ret := y.2.2.2) hy rfl ?_
  intro p e s m args below meth c s₁ B hml hv
  obtain ⟨rfl, hi, hP, hK, hS⟩ := hv
  have hts := atoms_spec (ws := wsy y) B.pre
  have hown : s.vm.findClass y.1.cls = some m.cls := findClass_of_methodNamed B.named
  rw [lg_entry_eq]
  have hl := lv_entry As (n := y.2.2.1) (by rw [enL_len]; exact hn)
  generalize (lg_sl As ++ List.replicate (y.2.2.1 - (lg_sl As).length) Slot.unset).toArray = ls at hl ⊢
  have hLH : LH y.2.2.1 L ls := by
    refine ⟨hl.1, hl.2.1, fun i v hi hv => ?_⟩
    rw [← hL] at hi
    unfold enF at hi
    by_cases hlt : i < (enL As).length
    · rw [List.getElem?_append_left hlt] at hi
      have := enL_args As 0 i v hi hv
      rw [Nat.zero_add] at this
      exact hl.2.2 _ this
    · rw [List.getElem?_append_right (by omega), List.getElem?_replicate] at hi
      split at hi
      · cases hi; exact absurd rfl hv
      · cases hi
  refine h (p, e, s, m, As.toArray, below, meth, c, Aw X, rm d, MQ below (fQ X Q) As.toArray s 0 0 (Aw X), 0, 0) ?_ ?_ hm (by rw [← hL]; unfold enF; rw [List.length_append, List.length_replicate]; omega) s.heap [] ls hLH hP va_S.rf
  · exact ⟨B.exec, B.bytes, hml, hown, fun w hw => hts w (List.mem_cons_of_mem _ hw), hK, hS, fun c hc => ⟨c, hc, rfl⟩, hi, Nat.le_refl _, Nat.le_refl _, Nat.le_refl _, Nat.le_refl _⟩
  · exact ⟨B.returns, B.notSynchronized, rfl, rfl, rfl, rfl⟩
