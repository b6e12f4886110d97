/-! what the public calls answer of a search -/
def spF (E : Int → Int) (b : Int) : Int → Int → Int := fun i acc => if E (31 * b + i) ≠ UT then orI acc (shlI 1 i) else acc
def spZ (E : Int → Int) (b w : Int) : Int := itZ (spF E b) 0 w
theorem spZ_s {E : Int → Int} {b w : Int} (h : 0 ≤ w) : spZ E b (w + 1) = if E (31 * b + w) ≠ UT then orI (spZ E b w) (shlI 1 w) else spZ E b w := itZ_succ _ _ h
theorem spZ_rg {E : Int → Int} {b w : Int} (h : 0 ≤ w) : rg (spZ E b w) :=
  itZ_inv (fun _ y => rg y) (by omega) (n := w) (fun k y _ _ hy => by unfold spF; split; exact rg_of _; exact hy) w h (Int.le_refl _)
abbrev spOk (M : fM) (s b : Int) : Prop := (0 ≤ b ∧ b ≤ 12) ∧ someP (M 1 5) (M 4) (M 5) s
abbrev tlOk (M : fM) (s x q : Int) : Prop := (1 ≤ x ∧ x ≤ 400) ∧ (0 ≤ q ∧ q ≤ 2) ∧ someP (M 1 5) (M 4) (M 5) s
def tellR (E C : Int → Int) (x q : Int) : Int := if E x = UT then -1 else if q = 1 then C x else if q = 0 then (E x).tdiv 10000 else (E x).tmod 10000
theorem Lst_0 {S : sN → Prop} {key : sN → Int} {x b : Int} (hb : ∀ m, S m → 0 ≤ key m) (h : Lst S key x UT b) : 0 ≤ b := by
  obtain ⟨p, -, -⟩ := h
  rcases p with e | ⟨m, a, -, e⟩
  · rw [e]; decide
  · rw [e]; exact hb m a
theorem SC_k0 {n s : Int} {P : Int → Int} {v : Int → Int → Int} {pr : Int → Int → Int → Int → Int} (h0 : n ≤ 4) (hp : ∀ w j p t, 0 ≤ pr w j p t ∧ pr w j p t ≤ 99) (m : sN) (h : SC n s P v pr m) : 0 ≤ kyE m := by
  have := SC_bd h0 hp h
  show 0 ≤ m.2.1 * 10000 + m.2.2.2.1
  omega
theorem shP.E0 {M K : fM} {W : Int → pV} {s wp : Int} (h : shP M W s wp K) (hn : M 1 5 ≤ 4) {x : Int} (h0 : 0 ≤ x) (h1 : x < 403) : 0 ≤ K 40 x := Lst_0 (SC_k0 hn (fun _ _ _ _ => prW_rg)) (h.2.2.2.2 x h0 h1).1
theorem bz_t {r : Int} {p : Prop} (h : bz r p) (hr : r ≠ 0) : p := by
  rcases h with q | q
  · exact q.2
  · exact absurd q.1 hr
theorem bz_f {r : Int} {p : Prop} (h : bz r p) (hr : r = 0) : ¬ p := by
  rcases h with q | q
  · omega
  · exact q.2
set_option maxRecDepth 20000 in
set_option maxHeartbeats 4000000 in
theorem t_X6_spans {X : fX} {M : fM} {d : Nat} {W : Int → pV} {s b : Int} (hrs : rg s) (hb : rg b) (hgk : gOk M W) (hkn : KN M W) : fC X (d + 35) mX6_spans [.ref (xa X 0), .int (iv s), .int (iv b)] M (QI fun r K => (¬ spOk M s b ∧ r = -2 ∧ K = M) ∨ (spOk M s b ∧ shP M W s 0 K ∧ r = spZ (K 40) b 31)) := by
  refine fC.of (L := [_, _, _, _, _]) (by decide +kernel) rfl (Nat.le_of_ble_eq_true rfl) (fun Z hZ hR => ?_)
  have hn := hgk.1.n
  have hA := hgk.1.A
  refine f_iload_n hZ dX6_spans_0 rfl ?_
  refine f_iconst hZ dX6_spans_1 ?_
  refine f_bipush hZ dX6_spans_2 ?_
  refine sX6_56 hZ dX6_spans_4 (t_X6_within (by omega) (by omega) (by omega)) (fun a4 M4 r4 h4 => ?_)
  obtain ⟨e4, h4⟩ := h4
  replace e4 := e4.symm
  subst e4
  refine f_eq (tgt := 21) hZ dX6_spans_7 rfl (by first | omega | exact spZ_rg (by omega)) (fun h7 => ?_) (fun h7 => ?_)
  · refine f_bipush hZ dX6_spans_21 ?_
    exact f_retI hZ hR dX6_spans_23 rfl (by first | omega | exact spZ_rg (by omega)) (by first | exact Or.inl ⟨fun q => bz_f h15 (by omega) q.2, rfl, rfl⟩ | exact Or.inl ⟨fun q => by omega, rfl, rfl⟩ | exact Or.inr ⟨⟨by omega, bz_t h15 (by omega)⟩, h30, by rw [show i = 31 by omega]⟩)
  · refine f_aload_n hZ dX6_spans_10 rfl ?_
    refine gX6_10 hZ dX6_spans_11 ?_
    refine f_iload_n hZ dX6_spans_14 rfl ?_
    refine vX6_137 hZ dX6_spans_15 (by first | exact hC | exact isC1 | exact isC7 | exact isC13) (t_X0_unlit isC1 hrs hn hA) (fun a15 M15 r15 h15 => ?_)
    try simp only [Nat.reduceAdd] at h15
    obtain ⟨e15, h15⟩ := h15
    replace e15 := e15.symm
    subst e15
    refine f_ne (tgt := 24) hZ dX6_spans_18 rfl (by first | omega | exact spZ_rg (by omega)) (fun h18 => ?_) (fun h18 => ?_)
    · refine f_aload_n hZ dX6_spans_24 rfl ?_
      refine gX6_34 hZ dX6_spans_25 ?_
      refine f_iload_n hZ dX6_spans_28 rfl ?_
      refine f_iconst hZ dX6_spans_29 ?_
      refine vX6_140 hZ dX6_spans_30 (t_X4_search hgk hkn (bz_t h15 (by omega)) (by omega)) (fun M30 h30 => ?_)
      refine f_iconst hZ dX6_spans_33 ?_
      refine f_istore_n (L' := [_, _, _, _, _]) hZ dX6_spans_34 rfl rfl ?_
      refine f_iconst hZ dX6_spans_35 ?_
      refine f_istore (L' := [_, _, _, _, _]) hZ dX6_spans_36 rfl rfl ?_
      have loop : ∀ (m : Nat) (i : Int), 0 ≤ i → i + m = 31 → fG X mX6_spans Z 38 [.ref (xa X 0), .int (iv s), .int (iv b), .int (iv (spZ (M30 40) b i)), .int (iv i)] [] M30 := by
        intro m
        induction m with
        | zero =>
          intro i h0 hw
          refine f_iload hZ dX6_spans_38 rfl ?_
          refine f_bipush hZ dX6_spans_40 ?_
          refine f_ige (tgt := 75) hZ dX6_spans_42 rfl (by first | omega | exact spZ_rg (by omega)) (by first | omega | exact spZ_rg (by omega)) (fun h42 => ?_) (fun h42 => ?_)
          · refine f_iload_n hZ dX6_spans_75 rfl ?_
            exact f_retI hZ hR dX6_spans_76 rfl (by first | omega | exact spZ_rg (by omega)) (by first | exact Or.inl ⟨fun q => bz_f h15 (by omega) q.2, rfl, rfl⟩ | exact Or.inl ⟨fun q => by omega, rfl, rfl⟩ | exact Or.inr ⟨⟨by omega, bz_t h15 (by omega)⟩, h30, by rw [show i = 31 by omega]⟩)
          · exfalso; omega
        | succ m ih =>
          intro i h0 hw
          refine f_iload hZ dX6_spans_38 rfl ?_
          refine f_bipush hZ dX6_spans_40 ?_
          refine f_ige (tgt := 75) hZ dX6_spans_42 rfl (by first | omega | exact spZ_rg (by omega)) (by first | omega | exact spZ_rg (by omega)) (fun h42 => ?_) (fun h42 => ?_)
          · exfalso; omega
          · refine f_aload_n hZ dX6_spans_45 rfl ?_
            refine gX6_34 hZ dX6_spans_46 ?_
            refine f_bipush hZ dX6_spans_49 ?_
            refine f_iload_n hZ dX6_spans_51 rfl ?_
            refine f_imul hZ dX6_spans_52 ?_
            refine f_iload hZ dX6_spans_53 rfl ?_
            refine f_iadd hZ dX6_spans_55 ?_
            refine vX6_144 hZ dX6_spans_56 (t_X4_tells (by omega)) (fun a56 M56 r56 h56 => ?_)
            obtain ⟨e56, h56⟩ := h56
            replace e56 := e56.symm
            subst e56
            refine f_eq (tgt := 69) hZ dX6_spans_59 rfl (by first | omega | exact spZ_rg (by omega)) (fun h59 => ?_) (fun h59 => ?_)
            · refine f_iinc (L' := [_, _, _, _, _]) hZ dX6_spans_69 rfl rfl ?_
              refine f_goto (tgt := 38) hZ dX6_spans_72 rfl ?_
              have hh := ih (i + 1) (by omega) (by omega)
              rw [spZ_s h0] at hh
              first
                | (rw [if_pos (show M30 40 (31 * b + i) ≠ 2147483647 by omega)] at hh; exact hh)
                | (rw [if_neg (show ¬ M30 40 (31 * b + i) ≠ 2147483647 by omega)] at hh; exact hh)
            · refine f_iload_n hZ dX6_spans_62 rfl ?_
              refine f_iconst hZ dX6_spans_63 ?_
              refine f_iload hZ dX6_spans_64 rfl ?_
              refine f_ishl hZ dX6_spans_66 ?_
              refine f_ior hZ dX6_spans_67 ?_
              refine f_istore_n (L' := [_, _, _, _, _]) hZ dX6_spans_68 rfl rfl ?_
              refine f_iinc (L' := [_, _, _, _, _]) hZ dX6_spans_69 rfl rfl ?_
              refine f_goto (tgt := 38) hZ dX6_spans_72 rfl ?_
              have hh := ih (i + 1) (by omega) (by omega)
              rw [spZ_s h0] at hh
              first
                | (rw [if_pos (show M30 40 (31 * b + i) ≠ 2147483647 by omega)] at hh; exact hh)
                | (rw [if_neg (show ¬ M30 40 (31 * b + i) ≠ 2147483647 by omega)] at hh; exact hh)
      exact loop 31 0 (by omega) (by omega)
    · refine f_bipush hZ dX6_spans_21 ?_
      exact f_retI hZ hR dX6_spans_23 rfl (by first | omega | exact spZ_rg (by omega)) (by first | exact Or.inl ⟨fun q => bz_f h15 (by omega) q.2, rfl, rfl⟩ | exact Or.inl ⟨fun q => by omega, rfl, rfl⟩ | exact Or.inr ⟨⟨by omega, bz_t h15 (by omega)⟩, h30, by rw [show i = 31 by omega]⟩)

set_option maxRecDepth 20000 in
set_option maxHeartbeats 4000000 in
theorem t_X6_tell {X : fX} {M : fM} {d : Nat} {W : Int → pV} {s x q : Int} (hrs : rg s) (hx : rg x) (hq : rg q) (hgk : gOk M W) (hkn : KN M W) : fC X (d + 35) mX6_tell [.ref (xa X 0), .int (iv s), .int (iv x), .int (iv q)] M (QI fun r K => (¬ tlOk M s x q ∧ r = -2 ∧ K = M) ∨ (tlOk M s x q ∧ ∃ wp, (q = 1 → wp = 1) ∧ shP M W s wp K ∧ r = tellR (K 40) (K 41) x q)) := by
  refine fC.of (L := [_, _, _, _]) (by decide +kernel) rfl (Nat.le_of_ble_eq_true rfl) (fun Z hZ hR => ?_)
  have hn := hgk.1.n
  have hA := hgk.1.A
  refine f_iload_n hZ dX6_tell_0 rfl ?_
  refine f_iconst hZ dX6_tell_1 ?_
  refine f_sipush hZ dX6_tell_2 ?_
  refine sX6_56 hZ dX6_tell_5 (t_X6_within (by omega) (by omega) (by omega)) (fun a5 M5 r5 h5 => ?_)
  obtain ⟨e5, h5⟩ := h5
  replace e5 := e5.symm
  subst e5
  refine f_eq (tgt := 31) hZ dX6_tell_8 rfl (by omega) (fun h8 => ?_) (fun h8 => ?_)
  · refine f_bipush hZ dX6_tell_31 ?_
    exact f_retI hZ hR dX6_tell_33 rfl (by omega) (by first | exact Or.inl ⟨fun q => bz_f h25 (by omega) q.2.2, rfl, rfl⟩ | exact Or.inl ⟨fun q => by omega, rfl, rfl⟩ | (refine Or.inr ⟨⟨by omega, by omega, bz_t h25 (by omega)⟩, _, fun q => by omega, h49, ?_⟩; unfold tellR; first | (rw [if_pos (show M49 40 x = 2147483647 by omega)]; done) | (rw [if_neg (show ¬ M49 40 x = 2147483647 by omega)]; first | (rw [if_pos (by omega)]; omega) | (rw [if_neg (by omega), if_pos (by omega)]; omega) | (rw [if_neg (by omega), if_neg (by omega)]; omega))))
  · refine f_iload_n hZ dX6_tell_11 rfl ?_
    refine f_iconst hZ dX6_tell_12 ?_
    refine f_iconst hZ dX6_tell_13 ?_
    refine sX6_56 hZ dX6_tell_14 (t_X6_within (by omega) (by omega) (by omega)) (fun a14 M14 r14 h14 => ?_)
    obtain ⟨e14, h14⟩ := h14
    replace e14 := e14.symm
    subst e14
    refine f_eq (tgt := 31) hZ dX6_tell_17 rfl (by omega) (fun h17 => ?_) (fun h17 => ?_)
    · refine f_bipush hZ dX6_tell_31 ?_
      exact f_retI hZ hR dX6_tell_33 rfl (by omega) (by first | exact Or.inl ⟨fun q => bz_f h25 (by omega) q.2.2, rfl, rfl⟩ | exact Or.inl ⟨fun q => by omega, rfl, rfl⟩ | (refine Or.inr ⟨⟨by omega, by omega, bz_t h25 (by omega)⟩, _, fun q => by omega, h49, ?_⟩; unfold tellR; first | (rw [if_pos (show M49 40 x = 2147483647 by omega)]; done) | (rw [if_neg (show ¬ M49 40 x = 2147483647 by omega)]; first | (rw [if_pos (by omega)]; omega) | (rw [if_neg (by omega), if_pos (by omega)]; omega) | (rw [if_neg (by omega), if_neg (by omega)]; omega))))
    · refine f_aload_n hZ dX6_tell_20 rfl ?_
      refine gX6_10 hZ dX6_tell_21 ?_
      refine f_iload_n hZ dX6_tell_24 rfl ?_
      refine vX6_137 hZ dX6_tell_25 (by first | exact hC | exact isC1 | exact isC7 | exact isC13) (t_X0_unlit isC1 hrs hn hA) (fun a25 M25 r25 h25 => ?_)
      try simp only [Nat.reduceAdd] at h25
      obtain ⟨e25, h25⟩ := h25
      replace e25 := e25.symm
      subst e25
      refine f_ne (tgt := 34) hZ dX6_tell_28 rfl (by omega) (fun h28 => ?_) (fun h28 => ?_)
      · refine f_aload_n hZ dX6_tell_34 rfl ?_
        refine gX6_34 hZ dX6_tell_35 ?_
        refine f_iload_n hZ dX6_tell_38 rfl ?_
        refine f_iload_n hZ dX6_tell_39 rfl ?_
        refine f_iconst hZ dX6_tell_40 ?_
        refine f_ine (tgt := 48) hZ dX6_tell_41 rfl (by omega) (by omega) (fun h41 => ?_) (fun h41 => ?_)
        · refine f_iconst hZ dX6_tell_48 ?_
          refine vX6_140 hZ dX6_tell_49 (t_X4_search hgk hkn (bz_t h25 (by omega)) (by omega)) (fun M49 h49 => ?_)
          have he0 : 0 ≤ M49 40 x := h49.E0 hn.2 (by omega) (by omega)
          refine f_aload_n hZ dX6_tell_52 rfl ?_
          refine gX6_34 hZ dX6_tell_53 ?_
          refine f_iload_n hZ dX6_tell_56 rfl ?_
          refine vX6_144 hZ dX6_tell_57 (t_X4_tells (by omega)) (fun a57 M57 r57 h57 => ?_)
          obtain ⟨e57, h57⟩ := h57
          replace e57 := e57.symm
          subst e57
          refine f_ne (tgt := 65) hZ dX6_tell_60 rfl (by omega) (fun h60 => ?_) (fun h60 => ?_)
          · refine f_iload_n hZ dX6_tell_65 rfl ?_
            refine f_iconst hZ dX6_tell_66 ?_
            refine f_ine (tgt := 79) hZ dX6_tell_67 rfl (by omega) (by omega) (fun h67 => ?_) (fun h67 => ?_)
            · refine f_iload_n hZ dX6_tell_79 rfl ?_
              refine f_ne (tgt := 94) hZ dX6_tell_80 rfl (by omega) (fun h80 => ?_) (fun h80 => ?_)
              · refine f_aload_n hZ dX6_tell_94 rfl ?_
                refine gX6_34 hZ dX6_tell_95 ?_
                refine f_iload_n hZ dX6_tell_98 rfl ?_
                refine vX6_153 hZ dX6_tell_99 (t_X4_firstOf (by omega) he0) (fun a99 M99 r99 h99 => ?_)
                obtain ⟨e99, h99⟩ := h99
                replace e99 := e99.symm
                subst e99
                exact f_retI hZ hR dX6_tell_102 rfl (by omega) (by first | exact Or.inl ⟨fun q => bz_f h25 (by omega) q.2.2, rfl, rfl⟩ | exact Or.inl ⟨fun q => by omega, rfl, rfl⟩ | (refine Or.inr ⟨⟨by omega, by omega, bz_t h25 (by omega)⟩, _, fun q => by omega, h49, ?_⟩; unfold tellR; first | (rw [if_pos (show M49 40 x = 2147483647 by omega)]; done) | (rw [if_neg (show ¬ M49 40 x = 2147483647 by omega)]; first | (rw [if_pos (by omega)]; omega) | (rw [if_neg (by omega), if_pos (by omega)]; omega) | (rw [if_neg (by omega), if_neg (by omega)]; omega))))
              · refine f_aload_n hZ dX6_tell_83 rfl ?_
                refine gX6_34 hZ dX6_tell_84 ?_
                refine f_iload_n hZ dX6_tell_87 rfl ?_
                refine vX6_150 hZ dX6_tell_88 (t_X4_leastOf (by omega) he0) (fun a88 M88 r88 h88 => ?_)
                obtain ⟨e88, h88⟩ := h88
                replace e88 := e88.symm
                subst e88
                refine f_goto (tgt := 102) hZ dX6_tell_91 rfl ?_
                exact f_retI hZ hR dX6_tell_102 rfl (by omega) (by first | exact Or.inl ⟨fun q => bz_f h25 (by omega) q.2.2, rfl, rfl⟩ | exact Or.inl ⟨fun q => by omega, rfl, rfl⟩ | (refine Or.inr ⟨⟨by omega, by omega, bz_t h25 (by omega)⟩, _, fun q => by omega, h49, ?_⟩; unfold tellR; first | (rw [if_pos (show M49 40 x = 2147483647 by omega)]; done) | (rw [if_neg (show ¬ M49 40 x = 2147483647 by omega)]; first | (rw [if_pos (by omega)]; omega) | (rw [if_neg (by omega), if_pos (by omega)]; omega) | (rw [if_neg (by omega), if_neg (by omega)]; omega))))
            · refine f_aload_n hZ dX6_tell_70 rfl ?_
              refine gX6_34 hZ dX6_tell_71 ?_
              refine f_iload_n hZ dX6_tell_74 rfl ?_
              refine vX6_147 hZ dX6_tell_75 (t_X4_cheapestOf (by omega)) (fun a75 M75 r75 h75 => ?_)
              obtain ⟨e75, h75⟩ := h75
              replace e75 := e75.symm
              subst e75
              exact f_retI hZ hR dX6_tell_78 rfl (by omega) (by first | exact Or.inl ⟨fun q => bz_f h25 (by omega) q.2.2, rfl, rfl⟩ | exact Or.inl ⟨fun q => by omega, rfl, rfl⟩ | (refine Or.inr ⟨⟨by omega, by omega, bz_t h25 (by omega)⟩, _, fun q => by omega, h49, ?_⟩; unfold tellR; first | (rw [if_pos (show M49 40 x = 2147483647 by omega)]; done) | (rw [if_neg (show ¬ M49 40 x = 2147483647 by omega)]; first | (rw [if_pos (by omega)]; omega) | (rw [if_neg (by omega), if_pos (by omega)]; omega) | (rw [if_neg (by omega), if_neg (by omega)]; omega))))
          · refine f_iconst hZ dX6_tell_63 ?_
            exact f_retI hZ hR dX6_tell_64 rfl (by omega) (by first | exact Or.inl ⟨fun q => bz_f h25 (by omega) q.2.2, rfl, rfl⟩ | exact Or.inl ⟨fun q => by omega, rfl, rfl⟩ | (refine Or.inr ⟨⟨by omega, by omega, bz_t h25 (by omega)⟩, _, fun q => by omega, h49, ?_⟩; unfold tellR; first | (rw [if_pos (show M49 40 x = 2147483647 by omega)]; done) | (rw [if_neg (show ¬ M49 40 x = 2147483647 by omega)]; first | (rw [if_pos (by omega)]; omega) | (rw [if_neg (by omega), if_pos (by omega)]; omega) | (rw [if_neg (by omega), if_neg (by omega)]; omega))))
        · refine f_iconst hZ dX6_tell_44 ?_
          refine f_goto (tgt := 49) hZ dX6_tell_45 rfl ?_
          refine vX6_140 hZ dX6_tell_49 (t_X4_search hgk hkn (bz_t h25 (by omega)) (by omega)) (fun M49 h49 => ?_)
          have he0 : 0 ≤ M49 40 x := h49.E0 hn.2 (by omega) (by omega)
          refine f_aload_n hZ dX6_tell_52 rfl ?_
          refine gX6_34 hZ dX6_tell_53 ?_
          refine f_iload_n hZ dX6_tell_56 rfl ?_
          refine vX6_144 hZ dX6_tell_57 (t_X4_tells (by omega)) (fun a57 M57 r57 h57 => ?_)
          obtain ⟨e57, h57⟩ := h57
          replace e57 := e57.symm
          subst e57
          refine f_ne (tgt := 65) hZ dX6_tell_60 rfl (by omega) (fun h60 => ?_) (fun h60 => ?_)
          · refine f_iload_n hZ dX6_tell_65 rfl ?_
            refine f_iconst hZ dX6_tell_66 ?_
            refine f_ine (tgt := 79) hZ dX6_tell_67 rfl (by omega) (by omega) (fun h67 => ?_) (fun h67 => ?_)
            · refine f_iload_n hZ dX6_tell_79 rfl ?_
              refine f_ne (tgt := 94) hZ dX6_tell_80 rfl (by omega) (fun h80 => ?_) (fun h80 => ?_)
              · refine f_aload_n hZ dX6_tell_94 rfl ?_
                refine gX6_34 hZ dX6_tell_95 ?_
                refine f_iload_n hZ dX6_tell_98 rfl ?_
                refine vX6_153 hZ dX6_tell_99 (t_X4_firstOf (by omega) he0) (fun a99 M99 r99 h99 => ?_)
                obtain ⟨e99, h99⟩ := h99
                replace e99 := e99.symm
                subst e99
                exact f_retI hZ hR dX6_tell_102 rfl (by omega) (by first | exact Or.inl ⟨fun q => bz_f h25 (by omega) q.2.2, rfl, rfl⟩ | exact Or.inl ⟨fun q => by omega, rfl, rfl⟩ | (refine Or.inr ⟨⟨by omega, by omega, bz_t h25 (by omega)⟩, _, fun q => by omega, h49, ?_⟩; unfold tellR; first | (rw [if_pos (show M49 40 x = 2147483647 by omega)]; done) | (rw [if_neg (show ¬ M49 40 x = 2147483647 by omega)]; first | (rw [if_pos (by omega)]; omega) | (rw [if_neg (by omega), if_pos (by omega)]; omega) | (rw [if_neg (by omega), if_neg (by omega)]; omega))))
              · refine f_aload_n hZ dX6_tell_83 rfl ?_
                refine gX6_34 hZ dX6_tell_84 ?_
                refine f_iload_n hZ dX6_tell_87 rfl ?_
                refine vX6_150 hZ dX6_tell_88 (t_X4_leastOf (by omega) he0) (fun a88 M88 r88 h88 => ?_)
                obtain ⟨e88, h88⟩ := h88
                replace e88 := e88.symm
                subst e88
                refine f_goto (tgt := 102) hZ dX6_tell_91 rfl ?_
                exact f_retI hZ hR dX6_tell_102 rfl (by omega) (by first | exact Or.inl ⟨fun q => bz_f h25 (by omega) q.2.2, rfl, rfl⟩ | exact Or.inl ⟨fun q => by omega, rfl, rfl⟩ | (refine Or.inr ⟨⟨by omega, by omega, bz_t h25 (by omega)⟩, _, fun q => by omega, h49, ?_⟩; unfold tellR; first | (rw [if_pos (show M49 40 x = 2147483647 by omega)]; done) | (rw [if_neg (show ¬ M49 40 x = 2147483647 by omega)]; first | (rw [if_pos (by omega)]; omega) | (rw [if_neg (by omega), if_pos (by omega)]; omega) | (rw [if_neg (by omega), if_neg (by omega)]; omega))))
            · refine f_aload_n hZ dX6_tell_70 rfl ?_
              refine gX6_34 hZ dX6_tell_71 ?_
              refine f_iload_n hZ dX6_tell_74 rfl ?_
              refine vX6_147 hZ dX6_tell_75 (t_X4_cheapestOf (by omega)) (fun a75 M75 r75 h75 => ?_)
              obtain ⟨e75, h75⟩ := h75
              replace e75 := e75.symm
              subst e75
              exact f_retI hZ hR dX6_tell_78 rfl (by omega) (by first | exact Or.inl ⟨fun q => bz_f h25 (by omega) q.2.2, rfl, rfl⟩ | exact Or.inl ⟨fun q => by omega, rfl, rfl⟩ | (refine Or.inr ⟨⟨by omega, by omega, bz_t h25 (by omega)⟩, _, fun q => by omega, h49, ?_⟩; unfold tellR; first | (rw [if_pos (show M49 40 x = 2147483647 by omega)]; done) | (rw [if_neg (show ¬ M49 40 x = 2147483647 by omega)]; first | (rw [if_pos (by omega)]; omega) | (rw [if_neg (by omega), if_pos (by omega)]; omega) | (rw [if_neg (by omega), if_neg (by omega)]; omega))))
          · refine f_iconst hZ dX6_tell_63 ?_
            exact f_retI hZ hR dX6_tell_64 rfl (by omega) (by first | exact Or.inl ⟨fun q => bz_f h25 (by omega) q.2.2, rfl, rfl⟩ | exact Or.inl ⟨fun q => by omega, rfl, rfl⟩ | (refine Or.inr ⟨⟨by omega, by omega, bz_t h25 (by omega)⟩, _, fun q => by omega, h49, ?_⟩; unfold tellR; first | (rw [if_pos (show M49 40 x = 2147483647 by omega)]; done) | (rw [if_neg (show ¬ M49 40 x = 2147483647 by omega)]; first | (rw [if_pos (by omega)]; omega) | (rw [if_neg (by omega), if_pos (by omega)]; omega) | (rw [if_neg (by omega), if_neg (by omega)]; omega))))
      · refine f_bipush hZ dX6_tell_31 ?_
        exact f_retI hZ hR dX6_tell_33 rfl (by omega) (by first | exact Or.inl ⟨fun q => bz_f h25 (by omega) q.2.2, rfl, rfl⟩ | exact Or.inl ⟨fun q => by omega, rfl, rfl⟩ | (refine Or.inr ⟨⟨by omega, by omega, bz_t h25 (by omega)⟩, _, fun q => by omega, h49, ?_⟩; unfold tellR; first | (rw [if_pos (show M49 40 x = 2147483647 by omega)]; done) | (rw [if_neg (show ¬ M49 40 x = 2147483647 by omega)]; first | (rw [if_pos (by omega)]; omega) | (rw [if_neg (by omega), if_pos (by omega)]; omega) | (rw [if_neg (by omega), if_neg (by omega)]; omega))))

set_option maxRecDepth 20000 in
set_option maxHeartbeats 4000000 in
theorem t_X6_between {X : fX} {M : fM} {d : Nat} {W : Int → pV} {s x : Int} (hrs : rg s) (hx : rg x) (hgk : gOk M W) (hkn : KN M W) : fC X (d + 35) mX6_between [.ref (xa X 0), .int (iv s), .int (iv x)] M (QI fun r K => (¬ tlOk M s x 0 ∧ r = -2 ∧ K = M) ∨ (tlOk M s x 0 ∧ shP M W s 0 K ∧ bz r (K 42 x = 1))) := by
  refine fC.of (L := [_, _, _]) (by decide +kernel) rfl (Nat.le_of_ble_eq_true rfl) (fun Z hZ hR => ?_)
  have hn := hgk.1.n
  have hA := hgk.1.A
  refine f_iload_n hZ dX6_between_0 rfl ?_
  refine f_iconst hZ dX6_between_1 ?_
  refine f_sipush hZ dX6_between_2 ?_
  refine sX6_56 hZ dX6_between_5 (t_X6_within (by omega) (by omega) (by omega)) (fun a5 M5 r5 h5 => ?_)
  obtain ⟨e5, h5⟩ := h5
  replace e5 := e5.symm
  subst e5
  refine f_eq (tgt := 22) hZ dX6_between_8 rfl (by omega) (fun h8 => ?_) (fun h8 => ?_)
  · refine f_bipush hZ dX6_between_22 ?_
    exact f_retI hZ hR dX6_between_24 rfl (by omega) (by first | exact Or.inl ⟨fun q => bz_f h16 (by omega) q.2.2, rfl, rfl⟩ | exact Or.inl ⟨fun q => by omega, rfl, rfl⟩ | exact Or.inr ⟨⟨by omega, by omega, bz_t h16 (by omega)⟩, h31, by omega⟩)
  · refine f_aload_n hZ dX6_between_11 rfl ?_
    refine gX6_10 hZ dX6_between_12 ?_
    refine f_iload_n hZ dX6_between_15 rfl ?_
    refine vX6_137 hZ dX6_between_16 (by first | exact hC | exact isC1 | exact isC7 | exact isC13) (t_X0_unlit isC1 hrs hn hA) (fun a16 M16 r16 h16 => ?_)
    try simp only [Nat.reduceAdd] at h16
    obtain ⟨e16, h16⟩ := h16
    replace e16 := e16.symm
    subst e16
    refine f_ne (tgt := 25) hZ dX6_between_19 rfl (by omega) (fun h19 => ?_) (fun h19 => ?_)
    · refine f_aload_n hZ dX6_between_25 rfl ?_
      refine gX6_34 hZ dX6_between_26 ?_
      refine f_iload_n hZ dX6_between_29 rfl ?_
      refine f_iconst hZ dX6_between_30 ?_
      refine vX6_140 hZ dX6_between_31 (t_X4_search hgk hkn (bz_t h16 (by omega)) (by omega)) (fun M31 h31 => ?_)
      refine f_aload_n hZ dX6_between_34 rfl ?_
      refine gX6_34 hZ dX6_between_35 ?_
      refine f_iload_n hZ dX6_between_38 rfl ?_
      refine vX6_156 hZ dX6_between_39 (t_X4_liesBetween (by omega)) (fun a39 M39 r39 h39 => ?_)
      obtain ⟨e39, h39⟩ := h39
      replace e39 := e39.symm
      subst e39
      refine f_eq (tgt := 49) hZ dX6_between_42 rfl (by omega) (fun h42 => ?_) (fun h42 => ?_)
      · refine f_iconst hZ dX6_between_49 ?_
        exact f_retI hZ hR dX6_between_50 rfl (by omega) (by first | exact Or.inl ⟨fun q => bz_f h16 (by omega) q.2.2, rfl, rfl⟩ | exact Or.inl ⟨fun q => by omega, rfl, rfl⟩ | exact Or.inr ⟨⟨by omega, by omega, bz_t h16 (by omega)⟩, h31, by omega⟩)
      · refine f_iconst hZ dX6_between_45 ?_
        refine f_goto (tgt := 50) hZ dX6_between_46 rfl ?_
        exact f_retI hZ hR dX6_between_50 rfl (by omega) (by first | exact Or.inl ⟨fun q => bz_f h16 (by omega) q.2.2, rfl, rfl⟩ | exact Or.inl ⟨fun q => by omega, rfl, rfl⟩ | exact Or.inr ⟨⟨by omega, by omega, bz_t h16 (by omega)⟩, h31, by omega⟩)
    · refine f_bipush hZ dX6_between_22 ?_
      exact f_retI hZ hR dX6_between_24 rfl (by omega) (by first | exact Or.inl ⟨fun q => bz_f h16 (by omega) q.2.2, rfl, rfl⟩ | exact Or.inl ⟨fun q => by omega, rfl, rfl⟩ | exact Or.inr ⟨⟨by omega, by omega, bz_t h16 (by omega)⟩, h31, by omega⟩)

def woZ (M : fM) (W : Int → pV) (x : Int) : Int := bd 999 (W 1 (nmf 0 (M 1 6) 0 0 0 x))
theorem woZ_rg {M : fM} {W : Int → pV} {x : Int} : 0 ≤ woZ M W x ∧ woZ M W x ≤ 999 := bd_rg (by omega)
set_option maxRecDepth 20000 in
set_option maxHeartbeats 4000000 in
theorem t_X6_worthOf {X : fX} {M : fM} {d : Nat} {W : Int → pV} {x : Int} (hx : rg x) (hgk : gOk M W) : fC X (d + 2) mX6_worthOf [.ref (xa X 0), .int (iv x)] M (QI fun r K => (∀ c, c ≠ 35 → c ≠ 36 → K c = M c) ∧ r = woZ M W x) := by
  refine fC.of (L := [_, _]) (by decide +kernel) rfl (Nat.le_of_ble_eq_true rfl) (fun Z hZ hR => ?_)
  obtain ⟨h1, h2, h3, h4⟩ := hgk
  have hdm : 0 ≤ M 1 6 ∧ M 1 6 ≤ 9 := h1.2.1
  refine f_aload_n hZ dX6_worthOf_0 rfl ?_
  refine gX6_25 hZ dX6_worthOf_1 ?_
  refine f_iconst hZ dX6_worthOf_4 ?_
  refine f_aload_n hZ dX6_worthOf_5 rfl ?_
  refine gX6_10 hZ dX6_worthOf_6 ?_
  refine gX6_91_1 hZ dX6_worthOf_9 (fun r9 => ?_)
  try simp only [nameM_ne (show (1 : Nat) ≠ 35 by decide), nameM_ne (show (19 : Nat) ≠ 35 by decide)] at r9 ⊢
  refine f_iconst hZ dX6_worthOf_12 ?_
  refine f_iconst hZ dX6_worthOf_13 ?_
  refine f_iconst hZ dX6_worthOf_14 ?_
  refine f_iload_n hZ dX6_worthOf_15 rfl ?_
  refine vX6_162 hZ dX6_worthOf_16 (t_X5_name (by omega) (by omega) (by omega) (by omega) (by omega) (by omega)) (fun M16 h16 => ?_)
  subst h16
  refine f_aload_n hZ dX6_worthOf_19 rfl ?_
  refine gX6_25 hZ dX6_worthOf_20 ?_
  refine f_aload_n hZ dX6_worthOf_23 rfl ?_
  refine gX6_10 hZ dX6_worthOf_24 ?_
  refine gX6_124_1 hZ dX6_worthOf_27 (fun r27 => ?_)
  try simp only [nameM_ne (show (1 : Nat) ≠ 35 by decide), nameM_ne (show (19 : Nat) ≠ 35 by decide)] at r27 ⊢
  refine f_iconst hZ dX6_worthOf_30 ?_
  refine f_sipush hZ dX6_worthOf_31 ?_
  refine vX6_166 hZ dX6_worthOf_34 (t_X5_bounded (v := W 1) (by simp only [nameM_ne (show (1 : Nat) ≠ 35 by decide), nameM_ne (show (19 : Nat) ≠ 35 by decide)]; omega) (by simp only [nameM_ne (show (1 : Nat) ≠ 35 by decide), nameM_ne (show (19 : Nat) ≠ 35 by decide)]; omega) (by omega) (by omega) (TXs_congr (by omega) (fun c c1 c2 => by rw [nameM_ne (by omega)]) (h4 1 (by omega) (by omega)))) (fun a34 M34 r34 h34 => ?_)
  exact f_retI hZ hR dX6_worthOf_37 rfl (by omega) (by refine ⟨fun c c1 c2 => by rw [h34.1 c c2, nameM_ne c1], ?_⟩; rw [h34.2]; exact congrArg (bd 999) (TXs_nm (h4 1 (by omega) (by omega)) (fun i i0 i1 => nameM_35 i0 i1)))

def wrN (E f : Int → Int) : Nat → Int × Int
  | 0 => (-1, -1)
  | k + 1 => if E ((k : Int) + 1) ≠ UT ∧ (wrN E f k).1 < f ((k : Int) + 1) then (f ((k : Int) + 1), (k : Int) + 1) else wrN E f k
theorem wrN_rg {E f : Int → Int} (hf : ∀ x, 0 ≤ f x ∧ f x ≤ 999) : ∀ k : Nat, (-1 ≤ (wrN E f k).1 ∧ (wrN E f k).1 ≤ 999) ∧ (-1 ≤ (wrN E f k).2 ∧ (wrN E f k).2 ≤ k)
  | 0 => by show (-1 ≤ (-1 : Int) ∧ (-1 : Int) ≤ 999) ∧ -1 ≤ (-1 : Int) ∧ (-1 : Int) ≤ ((0 : Nat) : Int); omega
  | k + 1 => by
    have ih := wrN_rg (E := E) hf k
    have := hf ((k : Int) + 1)
    unfold wrN
    split
    · refine ⟨⟨by omega, by omega⟩, ?_⟩
      show -1 ≤ (k : Int) + 1 ∧ (k : Int) + 1 ≤ ((k + 1 : Nat) : Int)
      omega
    · omega
theorem wrN_s {E f : Int → Int} {x : Int} (h : 1 ≤ x) : wrN E f (x + 1 - 1).toNat = if E x ≠ UT ∧ (wrN E f (x - 1).toNat).1 < f x then (f x, x) else wrN E f (x - 1).toNat := by
  rw [show (x + 1 - 1).toNat = (x - 1).toNat + 1 by omega]
  show (if E (((x - 1).toNat : Int) + 1) ≠ UT ∧ (wrN E f (x - 1).toNat).1 < f (((x - 1).toNat : Int) + 1) then (f (((x - 1).toNat : Int) + 1), ((x - 1).toNat : Int) + 1) else wrN E f (x - 1).toNat) = _
  rw [show ((x - 1).toNat : Int) + 1 = x by omega]
theorem shP.loose {M K N : fM} {W : Int → pV} {s wp : Int} (h : shP M W s wp K) (e : ∀ c, c ≠ 35 → c ≠ 36 → N c = K c) : shP M W s wp N := by
  obtain ⟨h1, h2, h3, h4, h5⟩ := h
  have e39 := e 39 (by decide) (by decide)
  refine ⟨⟨fun c a => by rw [e c (by omega) (by omega), h1.1 c a], fun i a b => by rw [e39, h1.2 i a b]⟩, by rw [e39]; exact h2, by rw [e39]; exact h3, by rw [e39]; exact h4, ?_⟩
  rw [e39, e 40 (by decide) (by decide), e 41 (by decide) (by decide), e 42 (by decide) (by decide)]
  exact h5
theorem woZ_eq {M N : fM} {W : Int → pV} (h : N 1 = M 1) : woZ N W = woZ M W := by funext x; unfold woZ; rw [h]
set_option maxRecDepth 20000 in
set_option maxHeartbeats 4000000 in
theorem t_X6_worth {X : fX} {M : fM} {d : Nat} {W : Int → pV} {s q : Int} (hrs : rg s) (hq : rg q) (hgk : gOk M W) (hkn : KN M W) : fC X (d + 35) mX6_worth [.ref (xa X 0), .int (iv s), .int (iv q)] M (QI fun r K => (¬ ((0 ≤ q ∧ q ≤ 1) ∧ someP (M 1 5) (M 4) (M 5) s) ∧ r = -2 ∧ K = M) ∨ (((0 ≤ q ∧ q ≤ 1) ∧ someP (M 1 5) (M 4) (M 5) s) ∧ shP M W s 0 K ∧ r = if q = 0 then (wrN (K 40) (woZ M W) 400).2 else (wrN (K 40) (woZ M W) 400).1)) := by
  refine fC.of (L := [_, _, _, _, _, _, _]) (by decide +kernel) rfl (Nat.le_of_ble_eq_true rfl) (fun Z hZ hR => ?_)
  have hn := hgk.1.n
  have hA := hgk.1.A
  refine f_iload_n hZ dX6_worth_0 rfl ?_
  refine f_iconst hZ dX6_worth_1 ?_
  refine f_iconst hZ dX6_worth_2 ?_
  refine sX6_56 hZ dX6_worth_3 (t_X6_within (by omega) (by omega) (by omega)) (fun a3 M3 r3 h3 => ?_)
  obtain ⟨e3, h3⟩ := h3
  replace e3 := e3.symm
  subst e3
  refine f_eq (tgt := 20) hZ dX6_worth_6 rfl (by omega) (fun h6 => ?_) (fun h6 => ?_)
  · refine f_bipush hZ dX6_worth_20 ?_
    exact f_retI hZ hR dX6_worth_22 rfl (by omega) (by first | exact Or.inl ⟨fun q => bz_f h14 (by omega) q.2, rfl, rfl⟩ | exact Or.inl ⟨fun q => by omega, rfl, rfl⟩ | (refine Or.inr ⟨⟨by omega, bz_t h14 (by omega)⟩, h29.loose hN, ?_⟩; rw [hN 40 (by decide) (by decide)]; first | rw [if_pos (by omega)] | rw [if_neg (by omega)]) <;> rw [show x = 401 by omega] <;> rfl)
  · refine f_aload_n hZ dX6_worth_9 rfl ?_
    refine gX6_10 hZ dX6_worth_10 ?_
    refine f_iload_n hZ dX6_worth_13 rfl ?_
    refine vX6_137 hZ dX6_worth_14 (by first | exact hC | exact isC1 | exact isC7 | exact isC13) (t_X0_unlit isC1 hrs hn hA) (fun a14 M14 r14 h14 => ?_)
    try simp only [Nat.reduceAdd] at h14
    obtain ⟨e14, h14⟩ := h14
    replace e14 := e14.symm
    subst e14
    refine f_ne (tgt := 23) hZ dX6_worth_17 rfl (by omega) (fun h17 => ?_) (fun h17 => ?_)
    · refine f_aload_n hZ dX6_worth_23 rfl ?_
      refine gX6_34 hZ dX6_worth_24 ?_
      refine f_iload_n hZ dX6_worth_27 rfl ?_
      refine f_iconst hZ dX6_worth_28 ?_
      refine vX6_140 hZ dX6_worth_29 (t_X4_search hgk hkn (bz_t h14 (by omega)) (by omega)) (fun M29 h29 => ?_)
      refine f_iconst hZ dX6_worth_32 ?_
      refine f_istore_n (L' := [_, _, _, _, _, _, _]) hZ dX6_worth_33 rfl rfl ?_
      refine f_iconst hZ dX6_worth_34 ?_
      refine f_istore (L' := [_, _, _, _, _, _, _]) hZ dX6_worth_35 rfl rfl ?_
      refine f_iconst hZ dX6_worth_37 ?_
      refine f_istore (L' := [_, _, _, _, _, _, _]) hZ dX6_worth_38 rfl rfl ?_
      have loop : ∀ (m : Nat) (x : Int) (N : fM), 1 ≤ x → x + m = 401 → (∀ c, c ≠ 35 → c ≠ 36 → N c = M29 c) → fG X mX6_worth Z 40 [.ref (xa X 0), .int (iv s), .int (iv q), .int (iv (wrN (M29 40) (woZ M W) (x - 1).toNat).1), .int (iv (wrN (M29 40) (woZ M W) (x - 1).toNat).2), .int (iv x), .null] [] N := by
        intro m
        induction m with
        | zero =>
          intro x N h0 hw hN
          have hwr := wrN_rg (E := M29 40) (f := woZ M W) (fun x => woZ_rg) (x - 1).toNat
          refine f_iload hZ dX6_worth_40 rfl ?_
          refine f_sipush hZ dX6_worth_42 ?_
          refine f_igt (tgt := 91) hZ dX6_worth_45 rfl (by omega) (by omega) (fun h45 => ?_) (fun h45 => ?_)
          · refine f_iload_n hZ dX6_worth_91 rfl ?_
            refine f_ne (tgt := 100) hZ dX6_worth_92 rfl (by omega) (fun h92 => ?_) (fun h92 => ?_)
            · refine f_iload_n hZ dX6_worth_100 rfl ?_
              exact f_retI hZ hR dX6_worth_101 rfl (by omega) (by first | exact Or.inl ⟨fun q => bz_f h14 (by omega) q.2, rfl, rfl⟩ | exact Or.inl ⟨fun q => by omega, rfl, rfl⟩ | (refine Or.inr ⟨⟨by omega, bz_t h14 (by omega)⟩, h29.loose hN, ?_⟩; rw [hN 40 (by decide) (by decide)]; first | rw [if_pos (by omega)] | rw [if_neg (by omega)]) <;> rw [show x = 401 by omega] <;> rfl)
            · refine f_iload hZ dX6_worth_95 rfl ?_
              refine f_goto (tgt := 101) hZ dX6_worth_97 rfl ?_
              exact f_retI hZ hR dX6_worth_101 rfl (by omega) (by first | exact Or.inl ⟨fun q => bz_f h14 (by omega) q.2, rfl, rfl⟩ | exact Or.inl ⟨fun q => by omega, rfl, rfl⟩ | (refine Or.inr ⟨⟨by omega, bz_t h14 (by omega)⟩, h29.loose hN, ?_⟩; rw [hN 40 (by decide) (by decide)]; first | rw [if_pos (by omega)] | rw [if_neg (by omega)]) <;> rw [show x = 401 by omega] <;> rfl)
          · exfalso; omega
        | succ m ih =>
          intro x N h0 hw hN
          have hwr := wrN_rg (E := M29 40) (f := woZ M W) (fun x => woZ_rg) (x - 1).toNat
          have hwo := woZ_rg (M := M) (W := W) (x := x)
          refine f_iload hZ dX6_worth_40 rfl ?_
          refine f_sipush hZ dX6_worth_42 ?_
          refine f_igt (tgt := 91) hZ dX6_worth_45 rfl (by omega) (by omega) (fun h45 => ?_) (fun h45 => ?_)
          · exfalso; omega
          · refine f_aload_n hZ dX6_worth_48 rfl ?_
            refine gX6_34 hZ dX6_worth_49 ?_
            refine f_iload hZ dX6_worth_52 rfl ?_
            refine vX6_144 hZ dX6_worth_54 (t_X4_tells (by omega)) (fun a54 M54 r54 h54 => ?_)
            obtain ⟨e54, h54⟩ := h54
            replace e54 := e54.symm
            subst e54
            simp only [toldP, hN 40 (by decide) (by decide)] at h54
            refine f_eq (tgt := 69) hZ dX6_worth_57 rfl (by omega) (fun h57 => ?_) (fun h57 => ?_)
            · refine f_iconst hZ dX6_worth_69 ?_
              refine f_nm (fun w6 ew6 => ?_)
              refine f_istore (L' := [_, _, _, _, _, _, _]) hZ dX6_worth_70 rfl rfl ?_
              refine f_iload hZ dX6_worth_72 rfl ?_
              refine f_iload_n hZ dX6_worth_74 rfl ?_
              refine f_ile (tgt := 85) hZ dX6_worth_75 rfl (by omega) (by omega) (fun h75 => ?_) (fun h75 => ?_)
              · refine f_iinc (L' := [_, _, _, _, _, _, _]) hZ dX6_worth_85 rfl rfl ?_
                refine f_goto (tgt := 40) hZ dX6_worth_88 rfl ?_
                refine f_forget (L' := [_, _, _, _, _, _, .null]) ⟨Or.inl rfl, Or.inl rfl, Or.inl rfl, Or.inl rfl, Or.inl rfl, Or.inl rfl, Or.inr rfl, trivial⟩ ?_
                first
                  | (exfalso; omega)
                  | (have hh := ih (x + 1) M63 (by omega) (by omega) (fun c c1 c2 => by rw [h63 c c1 c2, hN c c1 c2]); rw [wrN_s h0] at hh; first | (rw [if_pos (show M29 40 x ≠ 2147483647 ∧ _ from ⟨by omega, by omega⟩)] at hh; rw [ew6, e63]; exact hh) | (rw [if_neg (fun z => by have := z.2; omega)] at hh; exact hh))
                  | (have hh := ih (x + 1) N (by omega) (by omega) hN; rw [wrN_s h0] at hh; rw [if_neg (fun z => by have z1 : M29 40 x ≠ 2147483647 := z.1; omega)] at hh; exact hh)
              · refine f_iload hZ dX6_worth_78 rfl ?_
                refine f_istore_n (L' := [_, _, _, _, _, _, _]) hZ dX6_worth_80 rfl rfl ?_
                refine f_iload hZ dX6_worth_81 rfl ?_
                refine f_istore (L' := [_, _, _, _, _, _, _]) hZ dX6_worth_83 rfl rfl ?_
                refine f_iinc (L' := [_, _, _, _, _, _, _]) hZ dX6_worth_85 rfl rfl ?_
                refine f_goto (tgt := 40) hZ dX6_worth_88 rfl ?_
                refine f_forget (L' := [_, _, _, _, _, _, .null]) ⟨Or.inl rfl, Or.inl rfl, Or.inl rfl, Or.inl rfl, Or.inl rfl, Or.inl rfl, Or.inr rfl, trivial⟩ ?_
                first
                  | (exfalso; omega)
                  | (have hh := ih (x + 1) M63 (by omega) (by omega) (fun c c1 c2 => by rw [h63 c c1 c2, hN c c1 c2]); rw [wrN_s h0] at hh; first | (rw [if_pos (show M29 40 x ≠ 2147483647 ∧ _ from ⟨by omega, by omega⟩)] at hh; rw [ew6, e63]; exact hh) | (rw [if_neg (fun z => by have := z.2; omega)] at hh; exact hh))
                  | (have hh := ih (x + 1) N (by omega) (by omega) hN; rw [wrN_s h0] at hh; rw [if_neg (fun z => by have z1 : M29 40 x ≠ 2147483647 := z.1; omega)] at hh; exact hh)
            · refine f_aload_n hZ dX6_worth_60 rfl ?_
              refine f_iload hZ dX6_worth_61 rfl ?_
              refine vX6_159 hZ dX6_worth_63 (t_X6_worthOf (W := W) (by omega) (hgk.eq (fun c hc => by rw [hN c (by omega) (by omega), h29.1.1 c (by omega)]))) (fun a63 M63 r63 h63 => ?_)
              obtain ⟨h63, e63⟩ := h63
              rw [woZ_eq (show N 1 = M 1 by rw [hN 1 (by decide) (by decide), h29.1.1 1 (by omega)])] at e63
              refine f_goto (tgt := 70) hZ dX6_worth_66 rfl ?_
              refine f_nm (fun w6 ew6 => ?_)
              refine f_istore (L' := [_, _, _, _, _, _, _]) hZ dX6_worth_70 rfl rfl ?_
              refine f_iload hZ dX6_worth_72 rfl ?_
              refine f_iload_n hZ dX6_worth_74 rfl ?_
              refine f_ile (tgt := 85) hZ dX6_worth_75 rfl (by omega) (by omega) (fun h75 => ?_) (fun h75 => ?_)
              · refine f_iinc (L' := [_, _, _, _, _, _, _]) hZ dX6_worth_85 rfl rfl ?_
                refine f_goto (tgt := 40) hZ dX6_worth_88 rfl ?_
                refine f_forget (L' := [_, _, _, _, _, _, .null]) ⟨Or.inl rfl, Or.inl rfl, Or.inl rfl, Or.inl rfl, Or.inl rfl, Or.inl rfl, Or.inr rfl, trivial⟩ ?_
                first
                  | (exfalso; omega)
                  | (have hh := ih (x + 1) M63 (by omega) (by omega) (fun c c1 c2 => by rw [h63 c c1 c2, hN c c1 c2]); rw [wrN_s h0] at hh; first | (rw [if_pos (show M29 40 x ≠ 2147483647 ∧ _ from ⟨by omega, by omega⟩)] at hh; rw [ew6, e63]; exact hh) | (rw [if_neg (fun z => by have := z.2; omega)] at hh; exact hh))
                  | (have hh := ih (x + 1) N (by omega) (by omega) hN; rw [wrN_s h0] at hh; rw [if_neg (fun z => by have z1 : M29 40 x ≠ 2147483647 := z.1; omega)] at hh; exact hh)
              · refine f_iload hZ dX6_worth_78 rfl ?_
                refine f_istore_n (L' := [_, _, _, _, _, _, _]) hZ dX6_worth_80 rfl rfl ?_
                refine f_iload hZ dX6_worth_81 rfl ?_
                refine f_istore (L' := [_, _, _, _, _, _, _]) hZ dX6_worth_83 rfl rfl ?_
                refine f_iinc (L' := [_, _, _, _, _, _, _]) hZ dX6_worth_85 rfl rfl ?_
                refine f_goto (tgt := 40) hZ dX6_worth_88 rfl ?_
                refine f_forget (L' := [_, _, _, _, _, _, .null]) ⟨Or.inl rfl, Or.inl rfl, Or.inl rfl, Or.inl rfl, Or.inl rfl, Or.inl rfl, Or.inr rfl, trivial⟩ ?_
                first
                  | (exfalso; omega)
                  | (have hh := ih (x + 1) M63 (by omega) (by omega) (fun c c1 c2 => by rw [h63 c c1 c2, hN c c1 c2]); rw [wrN_s h0] at hh; first | (rw [if_pos (show M29 40 x ≠ 2147483647 ∧ _ from ⟨by omega, by omega⟩)] at hh; rw [ew6, e63]; exact hh) | (rw [if_neg (fun z => by have := z.2; omega)] at hh; exact hh))
                  | (have hh := ih (x + 1) N (by omega) (by omega) hN; rw [wrN_s h0] at hh; rw [if_neg (fun z => by have z1 : M29 40 x ≠ 2147483647 := z.1; omega)] at hh; exact hh)
      exact loop 400 1 M29 (by omega) (by omega) (fun _ _ _ => rfl)
    · refine f_bipush hZ dX6_worth_20 ?_
      exact f_retI hZ hR dX6_worth_22 rfl (by omega) (by first | exact Or.inl ⟨fun q => bz_f h14 (by omega) q.2, rfl, rfl⟩ | exact Or.inl ⟨fun q => by omega, rfl, rfl⟩ | (refine Or.inr ⟨⟨by omega, bz_t h14 (by omega)⟩, h29.loose hN, ?_⟩; rw [hN 40 (by decide) (by decide)]; first | rw [if_pos (by omega)] | rw [if_neg (by omega)]) <;> rw [show x = 401 by omega] <;> rfl)

set_option maxRecDepth 20000 in
set_option maxHeartbeats 4000000 in
theorem t_X6_sure {X : fX} {M : fM} {d : Nat} {W : Int → pV} {s : Int} (hrs : rg s) (hgk : gOk M W) (hkn : KN M W) : fC X (d + 35) mX6_sure [.ref (xa X 0), .int (iv s)] M (QJ fun r K => (¬ someP (M 1 5) (M 4) (M 5) s ∧ r = -4611686018427387904 ∧ K = M) ∨ (someP (M 1 5) (M 4) (M 5) s ∧ tlF M K ∧ K 39 11 = -1 ∧ (K 39 12 = 0 ∨ K 39 12 = 1) ∧ r = suN (M 1 5) s (M 4) (M 2) (M 3) 10)) := by
  refine fC.of (L := [_, _]) (by decide +kernel) rfl (Nat.le_of_ble_eq_true rfl) (fun Z hZ hR => ?_)
  have hn := hgk.1.n
  have hA := hgk.1.A
  refine f_aload_n hZ dX6_sure_0 rfl ?_
  refine gX6_10 hZ dX6_sure_1 ?_
  refine f_iload_n hZ dX6_sure_4 rfl ?_
  refine vX6_137 hZ dX6_sure_5 (by first | exact hC | exact isC1 | exact isC7 | exact isC13) (t_X0_unlit isC1 hrs hn hA) (fun a5 M5 r5 h5 => ?_)
  try simp only [Nat.reduceAdd] at h5
  obtain ⟨e5, h5⟩ := h5
  replace e5 := e5.symm
  subst e5
  refine f_eq (tgt := 22) hZ dX6_sure_8 rfl (by first | omega | (rw [h16.2.2.2]; exact suN_rj _)) (fun h8 => ?_) (fun h8 => ?_)
  · refine f_ldc2 (v := (-4611686018427387904 : Int64)) hZ (-4611686018427387904) dX6_sure_22 (tb_in 673 (by decide +kernel) (by decide +kernel)) (by decide) ?_
    exact f_retJ hZ hR dX6_sure_25 rfl (by first | omega | (rw [h16.2.2.2]; exact suN_rj _)) (by first | exact Or.inl ⟨bz_f h5 (by omega), rfl, rfl⟩ | exact Or.inr ⟨bz_t h5 (by omega), h16⟩)
  · refine f_aload_n hZ dX6_sure_11 rfl ?_
    refine gX6_34 hZ dX6_sure_12 ?_
    refine f_iload_n hZ dX6_sure_15 rfl ?_
    refine vX6_169 hZ dX6_sure_16 (t_X4_inAnyDamp hgk hkn.1 (bz_t h5 (by omega))) (fun a16 M16 r16 h16 => ?_)
    refine f_goto (tgt := 25) hZ dX6_sure_19 rfl ?_
    exact f_retJ hZ hR dX6_sure_25 rfl (by first | omega | (rw [h16.2.2.2]; exact suN_rj _)) (by first | exact Or.inl ⟨bz_f h5 (by omega), rfl, rfl⟩ | exact Or.inr ⟨bz_t h5 (by omega), h16⟩)

