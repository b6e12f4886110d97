/-! search: what is kept from one to the next -/
def tlF (M K : fM) : Prop := (∀ c, (c < 35 ∨ (36 < c ∧ c < 39) ∨ 48 < c) → K c = M c) ∧ ∀ i, i ≠ 11 → i ≠ 12 → K 39 i = M 39 i
theorem tlF.refl {M : fM} : tlF M M := ⟨fun _ _ => rfl, fun _ _ _ => rfl⟩
theorem tlF.trans {M N K : fM} (h : tlF M N) (h2 : tlF N K) : tlF M K := ⟨fun c a => by rw [h2.1 c a, h.1 c a], fun i a b => by rw [h2.2 i a b, h.2 i a b]⟩
def KN (M : fM) (W : Int → pV) : Prop := (M 39 12 = 0 ∨ M 39 12 = 1) ∧ (M 39 11 ≠ -1 → someP (M 1 5) (M 4) (M 5) (M 39 11) ∧ Res (SC (M 1 5) (M 39 11) (M 4) (vZ (M 2) (M 3) (M 1 6)) (prW M (W 0) (M 39 12))) (M 40) (M 41) (M 42))
def shP (M : fM) (W : Int → pV) (s wp : Int) (K : fM) : Prop := tlF M K ∧ K 39 11 = s ∧ (K 39 12 = 0 ∨ K 39 12 = 1) ∧ (wp = 1 → K 39 12 = 1) ∧ Res (SC (M 1 5) s (M 4) (vZ (M 2) (M 3) (M 1 6)) (prW M (W 0) (K 39 12))) (K 40) (K 41) (K 42)
theorem prW_eq {M N : fM} {v : pV} {wp : Int} (h1 : N 1 = M 1) (h4 : N 4 = M 4) (h6 : N 6 = M 6) : prW N v wp = prW M v wp := by
  unfold prW
  have : prZ N v = prZ M v := by funext w l p t; unfold prZ; rw [h1, h4, h6]
  rw [this]
theorem shP.kn {M K : fM} {W : Int → pV} {s wp : Int} (h : shP M W s wp K) (hs : someP (M 1 5) (M 4) (M 5) s) : KN K W := by
  obtain ⟨h1, h2, h3, -, h5⟩ := h
  refine ⟨h3, fun _ => ?_⟩
  rw [h1.1 1 (by omega), h1.1 4 (by omega), h1.1 5 (by omega), h1.1 2 (by omega), h1.1 3 (by omega), h2, prW_eq (h1.1 1 (by omega)) (h1.1 4 (by omega)) (h1.1 6 (by omega))]
  exact ⟨hs, h5⟩
theorem spM_ne {M : fM} {q k : Int} {c : Nat} (h : c ≠ 46) : spM M q k c = M c := by funext i; unfold spM; rw [if_neg (fun z => h z.1)]
theorem spM_at {M : fM} {q k j : Int} (h0 : 0 ≤ j) (h1 : j < k) : spM M q k 46 j = spN M q j := if_pos ⟨rfl, h0, h1⟩
theorem spN_eq {M N : fM} {q j : Int} (h1 : N 1 = M 1) (h2 : N 2 = M 2) (h3 : N 3 = M 3) : spN N q j = spN M q j := by unfold spN; rw [h1, h2, h3]
theorem gtP.sh {M K : fM} {W : Int → pV} {s wp : Int} (h : gtP (spM M (M 1 6) 12) W s (M 1 6) wp K) (hwp : wp = 0 ∨ wp = 1) : shP M W s wp (up K 39 11 s) := by
  obtain ⟨h1, h2, h3, h4⟩ := h
  have e1 : spM M (M 1 6) 12 1 = M 1 := spM_ne (by decide)
  have e2 : spM M (M 1 6) 12 2 = M 2 := spM_ne (by decide)
  have e3 : spM M (M 1 6) 12 3 = M 3 := spM_ne (by decide)
  have e4 : spM M (M 1 6) 12 4 = M 4 := spM_ne (by decide)
  rw [e1, e2, e3, e4, prW_eq e1 e4 (spM_ne (by decide))] at h4
  have e12 : up K 39 11 s 39 12 = wp := by rw [up_app, if_neg (by omega), h3]
  refine ⟨⟨fun c hc => by rw [up_ne (by omega), h1 c (by omega), spM_ne (by omega)], fun i a b => by rw [up_app, if_neg (fun q => a q.2), h2 i b, spM_ne (by decide)]⟩, by rw [up_app, if_pos ⟨rfl, rfl⟩], by rw [e12]; exact hwp, fun q => by rw [e12]; exact q, ?_⟩
  rw [e12, up_ne (by decide), up_ne (by decide), up_ne (by decide)]
  exact h4
theorem KN.sh {M : fM} {W : Int → pV} {s wp : Int} (h : KN M W) (hs : M 39 11 = s) (h0 : 0 ≤ s) (hw : wp = 1 → M 39 12 = 1) : shP M W s wp M := by
  obtain ⟨h1, h2⟩ := h
  have := (h2 (by omega)).2
  rw [hs] at this
  exact ⟨tlF.refl, hs, h1, hw, this⟩
theorem someP_eq {M N : fM} {s : Int} (h1 : N 1 = M 1) (h4 : N 4 = M 4) (h5 : N 5 = M 5) (h : someP (M 1 5) (M 4) (M 5) s) : someP (N 1 5) (N 4) (N 5) s := by rw [h1, h4, h5]; exact h
set_option maxRecDepth 20000 in
set_option maxHeartbeats 4000000 in
theorem t_X4_search {X : fX} {M : fM} {d : Nat} {W : Int → pV} {s wp : Int} (hgk : gOk M W) (hkn : KN M W) (hs : someP (M 1 5) (M 4) (M 5) s) (hwp : wp = 0 ∨ wp = 1) : fC X (d + 34) mX4_search [.ref (xa X 39), .int (iv s), .int (iv wp)] M (QV fun K => shP M W s wp K) := by
  refine fC.of (L := [_, _, _]) (by decide +kernel) rfl (Nat.le_of_ble_eq_true rfl) (fun Z hZ hR => ?_)
  have hn := hgk.1.n
  have hdm : 0 ≤ M 1 6 ∧ M 1 6 ≤ 9 := hgk.1.2.1
  have hk01 := hkn.1
  have hrs : rg s := ⟨by have := hs.1.1; omega, by have := hs.1.2; have := (shl_rg (M 1 5)).2; omega⟩
  refine f_aload_n hZ dX4_search_0 rfl ?_
  refine gX4_39 hZ dX4_search_1 (fun r1 => ?_)
  refine f_iload_n hZ dX4_search_4 rfl ?_
  refine f_ine (tgt := 20) hZ dX4_search_5 rfl (by omega) (by omega) (fun h5 => ?_) (fun h5 => ?_)
  · refine f_aload_n hZ dX4_search_20 rfl ?_
    refine f_aload_n hZ dX4_search_21 rfl ?_
    refine gX4_47 hZ dX4_search_22 ?_
    refine gX4_60_1 hZ dX4_search_25 (fun r25 => ?_)
    refine vX4_65 hZ dX4_search_28 (t_X4_takeSpeeds hdm hgk.1) (fun a28 M28 r28 h28 => ?_)
    obtain ⟨h28, e28⟩ := h28
    subst h28
    refine f_pop hZ dX4_search_31 rfl ?_
    refine f_aload_n hZ dX4_search_32 rfl ?_
    refine f_iload_n hZ dX4_search_33 rfl ?_
    refine f_iload_n hZ dX4_search_34 rfl ?_
    refine vX4_68 hZ dX4_search_35 (t_X4_goThrough (W := W) (s := s) (q := M 1 6) (hgk.eq (fun c hc => spM_ne (by omega))) (someP_eq (spM_ne (by decide)) (spM_ne (by decide)) (spM_ne (by decide)) hs) hdm (fun j a b => by rw [spM_at a b]; exact (spN_eq (spM_ne (by decide)) (spM_ne (by decide)) (spM_ne (by decide))).symm) hwp) (fun M35 h35 => ?_)
    refine f_aload_n hZ dX4_search_38 rfl ?_
    refine f_iload_n hZ dX4_search_39 rfl ?_
    refine pX4_39 hZ dX4_search_40 (by omega) ?_
    exact f_retV hZ hR dX4_search_43 rfl (by first | exact hkn.sh (by omega) hs.1.1 (fun q => by omega) | exact h35.sh hwp)
  · refine f_aload_n hZ dX4_search_8 rfl ?_
    refine gX4_43 hZ dX4_search_9 (fun r9 => ?_)
    refine f_ne (tgt := 19) hZ dX4_search_12 rfl (by omega) (fun h12 => ?_) (fun h12 => ?_)
    · exact f_retV hZ hR dX4_search_19 rfl (by first | exact hkn.sh (by omega) hs.1.1 (fun q => by omega) | exact h35.sh hwp)
    · refine f_iload_n hZ dX4_search_15 rfl ?_
      refine f_ne (tgt := 20) hZ dX4_search_16 rfl (by omega) (fun h16 => ?_) (fun h16 => ?_)
      · refine f_aload_n hZ dX4_search_20 rfl ?_
        refine f_aload_n hZ dX4_search_21 rfl ?_
        refine gX4_47 hZ dX4_search_22 ?_
        refine gX4_60_1 hZ dX4_search_25 (fun r25 => ?_)
        refine vX4_65 hZ dX4_search_28 (t_X4_takeSpeeds hdm hgk.1) (fun a28 M28 r28 h28 => ?_)
        obtain ⟨h28, e28⟩ := h28
        subst h28
        refine f_pop hZ dX4_search_31 rfl ?_
        refine f_aload_n hZ dX4_search_32 rfl ?_
        refine f_iload_n hZ dX4_search_33 rfl ?_
        refine f_iload_n hZ dX4_search_34 rfl ?_
        refine vX4_68 hZ dX4_search_35 (t_X4_goThrough (W := W) (s := s) (q := M 1 6) (hgk.eq (fun c hc => spM_ne (by omega))) (someP_eq (spM_ne (by decide)) (spM_ne (by decide)) (spM_ne (by decide)) hs) hdm (fun j a b => by rw [spM_at a b]; exact (spN_eq (spM_ne (by decide)) (spM_ne (by decide)) (spM_ne (by decide))).symm) hwp) (fun M35 h35 => ?_)
        refine f_aload_n hZ dX4_search_38 rfl ?_
        refine f_iload_n hZ dX4_search_39 rfl ?_
        refine pX4_39 hZ dX4_search_40 (by omega) ?_
        exact f_retV hZ hR dX4_search_43 rfl (by first | exact hkn.sh (by omega) hs.1.1 (fun q => by omega) | exact h35.sh hwp)
      · exact f_retV hZ hR dX4_search_19 rfl (by first | exact hkn.sh (by omega) hs.1.1 (fun q => by omega) | exact h35.sh hwp)

/-! in any damp -/
def TD (n s : Int) (P K N : Int → Int) (q : Int) : Int → Prop := fun y => ∃ m, SC n s P (vZ K N q) (fun _ _ _ _ => 0) m ∧ m.1 = y
noncomputable def sbT (T : Int → Prop) : Int := @sbZ T (fun y => Classical.propDecidable (T y)) 61
theorem sbZ_congr {T T' : Int → Prop} {i : DecidablePred T} {i' : DecidablePred T'} (h : ∀ y, 1 ≤ y → y ≤ 60 → (T y ↔ T' y)) : @sbZ T i 61 = @sbZ T' i' 61 := by
  unfold sbZ
  refine itZ_congr fun k x k0 k1 => ?_
  unfold sbF
  by_cases q : T (k + 1)
  · rw [if_pos q, if_pos ((h (k + 1) (by omega) (by omega)).mp q)]
  · rw [if_neg q, if_neg (fun z => q ((h (k + 1) (by omega) (by omega)).mpr z))]
noncomputable def suN (n s : Int) (P K N : Int → Int) : Nat → Int
  | 0 => -1
  | k + 1 => andJ (suN n s P K N k) (sbT (TD n s P K N k))
theorem suN_rj {n s : Int} {P K N : Int → Int} : ∀ k : Nat, rj (suN n s P K N k)
  | 0 => by show rj (-1); omega
  | _ + 1 => rj_of _
theorem andJ_0 (b : Int) : andJ 0 b = 0 := by
  unfold andJ
  rw [show jv 0 = 0 from rfl, Int64.zero_and]; rfl
theorem andJ_id (a b : Int) : andJ (andJ a b) b = andJ a b := by
  unfold andJ
  rw [jv_of, Int64.and_assoc, Int64.and_self]
theorem suN_0 {n s : Int} {P K N : Int → Int} {k : Nat} (h : suN n s P K N k = 0) : ∀ m : Nat, suN n s P K N (k + m) = 0
  | 0 => h
  | m + 1 => by
    show andJ (suN n s P K N (k + m)) _ = 0
    rw [suN_0 h m, andJ_0]
theorem Lst_told {S : sN → Prop} {x b : Int} (hb : ∀ m, S m → kyE m < UT) (h : Lst S kyE x UT b) : b ≠ UT ↔ ∃ m, S m ∧ m.1 = x := by
  obtain ⟨p, -, r⟩ := h
  constructor
  · intro q
    rcases p with e | ⟨m, a, b, -⟩
    · exact absurd e q
    · exact ⟨m, a, b⟩
  · rintro ⟨m, a, e⟩ z
    have := r m a e
    have := hb m a
    omega
theorem SC_ky {n s : Int} {P : Int → Int} {v : Int → Int → Int} {pr : Int → Int → Int → Int → Int} (h0 : n ≤ 4) (hp : ∀ w j p t, 0 ≤ pr w j p t ∧ pr w j p t ≤ 99) (m : sN) (h : SC n s P v pr m) : kyE m < UT := by
  have := SC_bd h0 hp h
  show m.2.1 * 10000 + m.2.2.2.1 < 2147483647
  omega
theorem spC_0 {M : fM} {q : Int} (h : itZ (spC M q) 0 12 = 0) : ∀ j, 0 ≤ j → j < 12 → M 46 j = spN M q j :=
  (itZ_inv (f := spC M q) (a := 0) (fun k x => (x = 0 ∨ x = 1) ∧ (x = 0 → ∀ j, 0 ≤ j → j < k → M 46 j = spN M q j)) ⟨Or.inl rfl, fun _ j a b => by omega⟩ (n := 12) (fun k x k0 k1 hx => by
    unfold spC
    by_cases h1 : M 46 k = spN M q k
    · rw [if_pos h1]
      refine ⟨hx.1, fun z j a b => ?_⟩
      by_cases hj : j = k
      · rw [hj]; exact h1
      · exact hx.2 z j a (by omega)
    · rw [if_neg h1]; exact ⟨Or.inr rfl, fun z => by omega⟩) 12 (by omega) (by omega)).2 h
theorem TD_same {M : fM} {s q q' : Int} {P : Int → Int} (hn : M 1 5 ≤ 4) (h : ∀ j, 0 ≤ j → j < 12 → spN M q j = spN M q' j) : TD (M 1 5) s P (M 2) (M 3) q = TD (M 1 5) s P (M 2) (M 3) q' := by
  have hv : ∀ w l, 0 ≤ w → w < M 1 5 → 1 ≤ l → l ≤ 2 → vZ (M 2) (M 3) q w l = vZ (M 2) (M 3) q' w l := fun w l a b c e => by
    have := h (w * 3 + l) (by omega) (by omega)
    unfold spN at this
    rw [show (w * 3 + l) / 3 = w by omega, show (w * 3 + l) % 3 = l by omega, if_pos b, if_pos b] at this
    exact this
  funext y
  refine propext (exists_congr fun m => and_congr ?_ Iff.rfl)
  exact emT_cg (n := M 1 5) hn (fun w a b => ⟨by unfold uZ; rw [hv w 1 a b (by omega) (by omega), hv w 2 a b (by omega) (by omega)], uZ_rg.2⟩) (fun _ _ _ => rfl) (fun _ _ _ => rfl) hv stS_sup
/-- the loop's state -/
def iaI (M : fM) (k : Nat) (N : fM) : Prop := tlF M N ∧ N 39 11 = -1 ∧ (N 39 12 = 0 ∨ N 39 12 = 1) ∧ (k ≠ 0 → ∀ j, 0 ≤ j → j < 12 → N 46 j = spN M ((k : Int) - 1) j)
theorem iaI.sp {M N : fM} {k : Nat} (h : iaI M k N) (q : Int) : (∀ j, spN N q j = spN M q j) ∧ N 1 = M 1 := ⟨fun j => spN_eq (h.1.1 1 (by omega)) (h.1.1 2 (by omega)) (h.1.1 3 (by omega)), h.1.1 1 (by omega)⟩
theorem iaI.skip {M N : fM} {k : Nat} {s : Int} {P : Int → Int} (h : iaI M k N) (hn : M 1 5 ≤ 4) (hk : k ≠ 0) (hc : itZ (spC N k) 0 12 = 0) : iaI M (k + 1) (spM N k 12) ∧ suN (M 1 5) s P (M 2) (M 3) (k + 1) = suN (M 1 5) s P (M 2) (M 3) k := by
  have h0 := spC_0 hc
  have hs := (h.sp k).1
  refine ⟨⟨⟨fun c a => by rw [spM_ne (by omega), h.1.1 c a], fun i a b => by rw [spM_ne (by decide), h.1.2 i a b]⟩, by rw [spM_ne (by decide)]; exact h.2.1, by rw [spM_ne (by decide)]; exact h.2.2.1, fun _ j a b => ?_⟩, ?_⟩
  · rw [spM_at a b, hs, show ((k + 1 : Nat) : Int) - 1 = k by omega]
  · obtain ⟨m, rfl⟩ : ∃ m, k = m + 1 := ⟨k - 1, by omega⟩
    have he : TD (M 1 5) s P (M 2) (M 3) ((m + 1 : Nat) : Int) = TD (M 1 5) s P (M 2) (M 3) (m : Int) := TD_same hn (fun j a b => by
      rw [← hs, ← h0 j a b, h.2.2.2 (by omega) j a b, show ((m + 1 : Nat) : Int) - 1 = m by omega])
    show andJ (andJ (suN (M 1 5) s P (M 2) (M 3) m) (sbT (TD (M 1 5) s P (M 2) (M 3) m))) (sbT (TD (M 1 5) s P (M 2) (M 3) ((m + 1 : Nat) : Int))) = andJ (suN (M 1 5) s P (M 2) (M 3) m) (sbT (TD (M 1 5) s P (M 2) (M 3) m))
    rw [he, andJ_id]
theorem iaI.go {M N K : fM} {W : Int → pV} {k : Nat} {s : Int} (h : iaI M k N) (hn : M 1 5 ≤ 4) (hg : gtP (spM N k 12) W s k 0 K) : iaI M (k + 1) K ∧ sbZ (fun y => toldP K y) 61 = sbT (TD (M 1 5) s (M 4) (M 2) (M 3) k) := by
  obtain ⟨h1, h2, h3, h4⟩ := hg
  have hs := (h.sp k).1
  have e1 : spM N k 12 1 = M 1 := by rw [spM_ne (by decide), h.1.1 1 (by omega)]
  have e2 : spM N k 12 2 = M 2 := by rw [spM_ne (by decide), h.1.1 2 (by omega)]
  have e3 : spM N k 12 3 = M 3 := by rw [spM_ne (by decide), h.1.1 3 (by omega)]
  have e4 : spM N k 12 4 = M 4 := by rw [spM_ne (by decide), h.1.1 4 (by omega)]
  refine ⟨⟨⟨fun c a => by rw [h1 c (by omega), spM_ne (by omega), h.1.1 c a], fun i a b => by rw [h2 i b, spM_ne (by decide), h.1.2 i a b]⟩, by rw [h2 11 (by decide), spM_ne (by decide)]; exact h.2.1, Or.inl h3, fun _ j a b => ?_⟩, ?_⟩
  · rw [h1 46 (by omega), spM_at a b, hs, show ((k + 1 : Nat) : Int) - 1 = k by omega]
  · rw [e1, e2, e3, e4] at h4
    refine sbZ_congr fun y y0 y1 => ?_
    have := Lst_told (SC_ky hn (fun _ _ _ _ => prW_rg)) (h4 y (by omega) (by omega)).1
    exact ⟨fun q => this.mp q.2.2, fun q => ⟨by omega, by omega, this.mpr q⟩⟩
set_option maxRecDepth 20000 in
set_option maxHeartbeats 4000000 in
theorem t_X4_inAnyDamp {X : fX} {M : fM} {d : Nat} {W : Int → pV} {s : Int} (hgk : gOk M W) (hk01 : M 39 12 = 0 ∨ M 39 12 = 1) (hs : someP (M 1 5) (M 4) (M 5) s) : fC X (d + 34) mX4_inAnyDamp [.ref (xa X 39), .int (iv s)] M (QJ fun r K => tlF M K ∧ K 39 11 = -1 ∧ (K 39 12 = 0 ∨ K 39 12 = 1) ∧ r = suN (M 1 5) s (M 4) (M 2) (M 3) 10) := by
  have hn := hgk.1.n
  refine fC.of (L := [_, _, _, _, _]) (by decide +kernel) rfl (Nat.le_of_ble_eq_true rfl) (fun Z hZ hR => ?_)
  have loop : ∀ (m k : Nat) (N : fM), k + m = 10 → iaI M k N → fG X mX4_inAnyDamp Z 11 [.ref (xa X 39), .int (iv s), .long (jv (suN (M 1 5) s (M 4) (M 2) (M 3) k)), .null, .int (iv k)] [] N := by
    intro m
    induction m with
    | zero =>
      intro k N hkm hN
      have hrj := suN_rj (n := M 1 5) (s := s) (P := M 4) (K := M 2) (N := M 3) k
      refine f_iload hZ dX4_inAnyDamp_11 rfl ?_
      refine f_bipush hZ dX4_inAnyDamp_13 ?_
      refine f_igt (tgt := 57) hZ dX4_inAnyDamp_15 rfl (by first | omega | exact suN_rj _) (by first | omega | exact suN_rj _) (fun h15 => ?_) (fun h15 => ?_)
      · refine f_lload_n hZ dX4_inAnyDamp_57 rfl ?_
        exact f_retJ hZ hR dX4_inAnyDamp_58 rfl (by first | omega | exact suN_rj _) (by refine ⟨hN.1, hN.2.1, hN.2.2.1, ?_⟩; rw [show k = 10 by omega])
      · exfalso; omega
    | succ m ih =>
      intro k N hkm hN
      have hrj := suN_rj (n := M 1 5) (s := s) (P := M 4) (K := M 2) (N := M 3) k
      have hWN : WfK N := (hgk.eq (fun c hc => hN.1.1 c (by omega))).1
      refine f_iload hZ dX4_inAnyDamp_11 rfl ?_
      refine f_bipush hZ dX4_inAnyDamp_13 ?_
      refine f_igt (tgt := 57) hZ dX4_inAnyDamp_15 rfl (by first | omega | exact suN_rj _) (by first | omega | exact suN_rj _) (fun h15 => ?_) (fun h15 => ?_)
      · exfalso; omega
      · refine f_lload_n hZ dX4_inAnyDamp_18 rfl ?_
        refine f_lconst0 hZ dX4_inAnyDamp_19 ?_
        refine f_lcmp hZ dX4_inAnyDamp_20 (by first | omega | exact suN_rj _) (by first | omega | exact suN_rj _) ?_
        refine f_eq (tgt := 57) hZ dX4_inAnyDamp_21 rfl (rg_cmpJ _ _) (fun h21 => ?_) (fun h21 => ?_)
        · simp only [cmpJ_lt, cmpJ_gt, cmpJ_eq, cmpJ_ge, cmpJ_le] at h21
          refine f_lload_n hZ dX4_inAnyDamp_57 rfl ?_
          exact f_retJ hZ hR dX4_inAnyDamp_58 rfl (by first | omega | exact suN_rj _) (by refine ⟨hN.1, hN.2.1, hN.2.2.1, ?_⟩; have h0 := suN_0 (show suN (M 1 5) s (M 4) (M 2) (M 3) k = 0 by omega) (m + 1); rw [show k + (m + 1) = 10 by omega] at h0; omega)
        · simp only [cmpJ_lt, cmpJ_gt, cmpJ_eq, cmpJ_ge, cmpJ_le] at h21
          refine f_aload_n hZ dX4_inAnyDamp_24 rfl ?_
          refine f_iload hZ dX4_inAnyDamp_25 rfl ?_
          refine vX4_65 hZ dX4_inAnyDamp_27 (t_X4_takeSpeeds (q := (k : Int)) (by omega) hWN) (fun a27 M27 r27 h27 => ?_)
          obtain ⟨h27, e27⟩ := h27
          subst h27
          refine f_ne (tgt := 38) hZ dX4_inAnyDamp_30 rfl (by first | omega | exact suN_rj _) (fun h30 => ?_) (fun h30 => ?_)
          · refine f_aload_n hZ dX4_inAnyDamp_38 rfl ?_
            refine f_iload_n hZ dX4_inAnyDamp_39 rfl ?_
            refine f_iconst hZ dX4_inAnyDamp_40 ?_
            refine vX4_68 hZ dX4_inAnyDamp_41 (t_X4_goThrough (W := W) (s := s) (q := (k : Int)) (wp := 0) (hgk.eq (fun c hc => by rw [spM_ne (by omega), hN.1.1 c (by omega)])) (someP_eq (by rw [spM_ne (by decide), hN.1.1 1 (by omega)]) (by rw [spM_ne (by decide), hN.1.1 4 (by omega)]) (by rw [spM_ne (by decide), hN.1.1 5 (by omega)]) hs) (by omega) (fun j a b => by rw [spM_at a b]; exact (spN_eq (spM_ne (by decide)) (spM_ne (by decide)) (spM_ne (by decide))).symm) (Or.inl rfl)) (fun M41 h41 => ?_)
            obtain ⟨hI2, hb2⟩ := hN.go hn.2 h41
            refine f_lload_n hZ dX4_inAnyDamp_44 rfl ?_
            refine f_aload_n hZ dX4_inAnyDamp_45 rfl ?_
            refine vX4_77 hZ dX4_inAnyDamp_46 (t_X4_sureBits) (fun a46 M46 r46 h46 => ?_)
            obtain ⟨e46, h46⟩ := h46
            replace e46 := e46.symm
            subst e46
            rw [hb2] at h46
            subst h46
            refine f_land hZ dX4_inAnyDamp_49 ?_
            refine f_lstore_n (L' := [_, _, _, _, _]) hZ dX4_inAnyDamp_50 rfl rfl ?_
            refine f_iinc (L' := [_, _, _, _, _]) hZ dX4_inAnyDamp_51 rfl rfl ?_
            refine f_goto (tgt := 11) hZ dX4_inAnyDamp_54 rfl ?_
            first
              | exact ih (k + 1) _ (by omega) hI2
              | (obtain ⟨hI3, hb3⟩ := hN.skip (s := s) (P := M 4) hn.2 (by omega) (by omega); have hh := ih (k + 1) _ (by omega) hI3; rw [hb3] at hh; exact hh)
          · refine f_iload hZ dX4_inAnyDamp_33 rfl ?_
            refine f_ne (tgt := 51) hZ dX4_inAnyDamp_35 rfl (by first | omega | exact suN_rj _) (fun h35 => ?_) (fun h35 => ?_)
            · refine f_iinc (L' := [_, _, _, _, _]) hZ dX4_inAnyDamp_51 rfl rfl ?_
              refine f_goto (tgt := 11) hZ dX4_inAnyDamp_54 rfl ?_
              first
                | exact ih (k + 1) _ (by omega) hI2
                | (obtain ⟨hI3, hb3⟩ := hN.skip (s := s) (P := M 4) hn.2 (by omega) (by omega); have hh := ih (k + 1) _ (by omega) hI3; rw [hb3] at hh; exact hh)
            · refine f_aload_n hZ dX4_inAnyDamp_38 rfl ?_
              refine f_iload_n hZ dX4_inAnyDamp_39 rfl ?_
              refine f_iconst hZ dX4_inAnyDamp_40 ?_
              refine vX4_68 hZ dX4_inAnyDamp_41 (t_X4_goThrough (W := W) (s := s) (q := (k : Int)) (wp := 0) (hgk.eq (fun c hc => by rw [spM_ne (by omega), hN.1.1 c (by omega)])) (someP_eq (by rw [spM_ne (by decide), hN.1.1 1 (by omega)]) (by rw [spM_ne (by decide), hN.1.1 4 (by omega)]) (by rw [spM_ne (by decide), hN.1.1 5 (by omega)]) hs) (by omega) (fun j a b => by rw [spM_at a b]; exact (spN_eq (spM_ne (by decide)) (spM_ne (by decide)) (spM_ne (by decide))).symm) (Or.inl rfl)) (fun M41 h41 => ?_)
              obtain ⟨hI2, hb2⟩ := hN.go hn.2 h41
              refine f_lload_n hZ dX4_inAnyDamp_44 rfl ?_
              refine f_aload_n hZ dX4_inAnyDamp_45 rfl ?_
              refine vX4_77 hZ dX4_inAnyDamp_46 (t_X4_sureBits) (fun a46 M46 r46 h46 => ?_)
              obtain ⟨e46, h46⟩ := h46
              replace e46 := e46.symm
              subst e46
              rw [hb2] at h46
              subst h46
              refine f_land hZ dX4_inAnyDamp_49 ?_
              refine f_lstore_n (L' := [_, _, _, _, _]) hZ dX4_inAnyDamp_50 rfl rfl ?_
              refine f_iinc (L' := [_, _, _, _, _]) hZ dX4_inAnyDamp_51 rfl rfl ?_
              refine f_goto (tgt := 11) hZ dX4_inAnyDamp_54 rfl ?_
              first
                | exact ih (k + 1) _ (by omega) hI2
                | (obtain ⟨hI3, hb3⟩ := hN.skip (s := s) (P := M 4) hn.2 (by omega) (by omega); have hh := ih (k + 1) _ (by omega) hI3; rw [hb3] at hh; exact hh)
  refine f_aload_n hZ dX4_inAnyDamp_0 rfl ?_
  refine vX4_72 hZ dX4_inAnyDamp_1 (t_X4_forget) (fun M1 h1 => ?_)
  subst h1
  refine f_ldc2 (v := (-1 : Int64)) hZ (-1) dX4_inAnyDamp_4 (tb_in 668 (by decide +kernel) (by decide +kernel)) (by decide) ?_
  refine f_lstore_n (L' := [_, _, _, _, _]) hZ dX4_inAnyDamp_7 rfl rfl ?_
  refine f_iconst hZ dX4_inAnyDamp_8 ?_
  refine f_istore (L' := [_, _, _, _, _]) hZ dX4_inAnyDamp_9 rfl rfl ?_
  exact loop 10 0 _ (by omega) ⟨⟨fun c hc => by unfold fgt; exact up_ne (by omega), fun i a b => by unfold fgt; rw [up_app, if_neg (fun q => a q.2)]⟩, by unfold fgt; rw [up_app, if_pos ⟨rfl, rfl⟩], by unfold fgt; rw [up_app, if_neg (by omega)]; exact hk01, fun q => absurd rfl q⟩

