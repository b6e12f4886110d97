set_option maxRecDepth 20000 in
set_option maxHeartbeats 4000000 in
theorem t_X6_low {X : fX} {M : fM} {d : Nat} {s a b : Int} (hs : 0 ≤ s ∧ s ≤ 20) (ha : 0 ≤ a ∧ a ≤ 20) (hb : 1 ≤ b ∧ b ≤ 20) : fC X d mX6_inLowestTerms [.int (iv s), .int (iv a), .int (iv b)] M (QI fun r M' => M' = M ∧ r = lowN s a b (b - 1).toNat) := by
  refine fC.of (L := [_, _, _, _]) (by decide +kernel) rfl (Nat.le_of_ble_eq_true rfl) (fun Z hZ hR => ?_)
  have loop : ∀ (m : Nat) (e : Int), e = (m : Int) + 1 → e ≤ b → (Rt X mX6_inLowestTerms (QI fun r M' => M' = M ∧ r = lowN s a b m) Z) → fG X mX6_inLowestTerms Z 2 [.int (iv s), .int (iv a), .int (iv b), .int (iv e)] [] M := by
    intro m
    induction m with
    | zero =>
      intro e he hle hR
      refine f_iload_n hZ dX6_inLowestTerms_2 rfl ?_
      refine f_iconst hZ dX6_inLowestTerms_3 ?_
      refine f_ile (tgt := 29) hZ dX6_inLowestTerms_4 rfl (by omega) (by omega) (fun h4 => ?_) (fun h4 => ?_)
      · refine f_iload_n hZ dX6_inLowestTerms_29 rfl ?_
        exact f_retI hZ hR dX6_inLowestTerms_30 rfl (by omega) (by exact ⟨rfl, rfl⟩)
      · exfalso; omega
    | succ m ih =>
      intro e he hle hR
      have he2 : e = (m : Int) + 2 := by omega
      refine f_iload_n hZ dX6_inLowestTerms_2 rfl ?_
      refine f_iconst hZ dX6_inLowestTerms_3 ?_
      refine f_ile (tgt := 29) hZ dX6_inLowestTerms_4 rfl (by first | omega | exact ⟨by have := (tmodp (a := a) (b := e) (by omega) (by omega)).1; omega, by have := (tmodp (a := a) (b := e) (by omega) (by omega)).2; omega⟩ | exact ⟨by have := (tmodp (a := b) (b := e) (by omega) (by omega)).1; omega, by have := (tmodp (a := b) (b := e) (by omega) (by omega)).2; omega⟩ | exact rg_tdiv (by omega) (by omega)) (by first | omega | exact ⟨by have := (tmodp (a := a) (b := e) (by omega) (by omega)).1; omega, by have := (tmodp (a := a) (b := e) (by omega) (by omega)).2; omega⟩ | exact ⟨by have := (tmodp (a := b) (b := e) (by omega) (by omega)).1; omega, by have := (tmodp (a := b) (b := e) (by omega) (by omega)).2; omega⟩ | exact rg_tdiv (by omega) (by omega)) (fun h4 => ?_) (fun h4 => ?_)
      · exfalso; omega
      · refine f_iload_n hZ dX6_inLowestTerms_7 rfl ?_
        refine f_iload_n hZ dX6_inLowestTerms_8 rfl ?_
        refine f_irem hZ dX6_inLowestTerms_9 (by first | omega | exact ⟨by have := (tmodp (a := a) (b := e) (by omega) (by omega)).1; omega, by have := (tmodp (a := a) (b := e) (by omega) (by omega)).2; omega⟩ | exact ⟨by have := (tmodp (a := b) (b := e) (by omega) (by omega)).1; omega, by have := (tmodp (a := b) (b := e) (by omega) (by omega)).2; omega⟩ | exact rg_tdiv (by omega) (by omega)) (by first | omega | exact ⟨by have := (tmodp (a := a) (b := e) (by omega) (by omega)).1; omega, by have := (tmodp (a := a) (b := e) (by omega) (by omega)).2; omega⟩ | exact ⟨by have := (tmodp (a := b) (b := e) (by omega) (by omega)).1; omega, by have := (tmodp (a := b) (b := e) (by omega) (by omega)).2; omega⟩ | exact rg_tdiv (by omega) (by omega)) (by first | omega | exact ⟨by have := (tmodp (a := a) (b := e) (by omega) (by omega)).1; omega, by have := (tmodp (a := a) (b := e) (by omega) (by omega)).2; omega⟩ | exact ⟨by have := (tmodp (a := b) (b := e) (by omega) (by omega)).1; omega, by have := (tmodp (a := b) (b := e) (by omega) (by omega)).2; omega⟩ | exact rg_tdiv (by omega) (by omega)) (by first | omega | exact ⟨by have := (tmodp (a := a) (b := e) (by omega) (by omega)).1; omega, by have := (tmodp (a := a) (b := e) (by omega) (by omega)).2; omega⟩ | exact ⟨by have := (tmodp (a := b) (b := e) (by omega) (by omega)).1; omega, by have := (tmodp (a := b) (b := e) (by omega) (by omega)).2; omega⟩ | exact rg_tdiv (by omega) (by omega)) ?_
        refine f_ne (tgt := 23) hZ dX6_inLowestTerms_10 rfl (by first | omega | exact ⟨by have := (tmodp (a := a) (b := e) (by omega) (by omega)).1; omega, by have := (tmodp (a := a) (b := e) (by omega) (by omega)).2; omega⟩ | exact ⟨by have := (tmodp (a := b) (b := e) (by omega) (by omega)).1; omega, by have := (tmodp (a := b) (b := e) (by omega) (by omega)).2; omega⟩ | exact rg_tdiv (by omega) (by omega)) (fun h10 => ?_) (fun h10 => ?_)
        · refine f_iinc (L' := [_, _, _, _]) hZ dX6_inLowestTerms_23 rfl rfl ?_
          refine f_goto (tgt := 2) hZ dX6_inLowestTerms_26 rfl ?_
          have hl : lowN s a b (m + 1) = lowN s a b m := if_neg (by rw [← he2]; omega)
          rw [hl] at hR
          exact ih (e + -1) (by omega) (by omega) hR
        · refine f_iload_n hZ dX6_inLowestTerms_13 rfl ?_
          refine f_iload_n hZ dX6_inLowestTerms_14 rfl ?_
          refine f_irem hZ dX6_inLowestTerms_15 (by first | omega | exact ⟨by have := (tmodp (a := a) (b := e) (by omega) (by omega)).1; omega, by have := (tmodp (a := a) (b := e) (by omega) (by omega)).2; omega⟩ | exact ⟨by have := (tmodp (a := b) (b := e) (by omega) (by omega)).1; omega, by have := (tmodp (a := b) (b := e) (by omega) (by omega)).2; omega⟩ | exact rg_tdiv (by omega) (by omega)) (by first | omega | exact ⟨by have := (tmodp (a := a) (b := e) (by omega) (by omega)).1; omega, by have := (tmodp (a := a) (b := e) (by omega) (by omega)).2; omega⟩ | exact ⟨by have := (tmodp (a := b) (b := e) (by omega) (by omega)).1; omega, by have := (tmodp (a := b) (b := e) (by omega) (by omega)).2; omega⟩ | exact rg_tdiv (by omega) (by omega)) (by first | omega | exact ⟨by have := (tmodp (a := a) (b := e) (by omega) (by omega)).1; omega, by have := (tmodp (a := a) (b := e) (by omega) (by omega)).2; omega⟩ | exact ⟨by have := (tmodp (a := b) (b := e) (by omega) (by omega)).1; omega, by have := (tmodp (a := b) (b := e) (by omega) (by omega)).2; omega⟩ | exact rg_tdiv (by omega) (by omega)) (by first | omega | exact ⟨by have := (tmodp (a := a) (b := e) (by omega) (by omega)).1; omega, by have := (tmodp (a := a) (b := e) (by omega) (by omega)).2; omega⟩ | exact ⟨by have := (tmodp (a := b) (b := e) (by omega) (by omega)).1; omega, by have := (tmodp (a := b) (b := e) (by omega) (by omega)).2; omega⟩ | exact rg_tdiv (by omega) (by omega)) ?_
          refine f_ne (tgt := 23) hZ dX6_inLowestTerms_16 rfl (by first | omega | exact ⟨by have := (tmodp (a := a) (b := e) (by omega) (by omega)).1; omega, by have := (tmodp (a := a) (b := e) (by omega) (by omega)).2; omega⟩ | exact ⟨by have := (tmodp (a := b) (b := e) (by omega) (by omega)).1; omega, by have := (tmodp (a := b) (b := e) (by omega) (by omega)).2; omega⟩ | exact rg_tdiv (by omega) (by omega)) (fun h16 => ?_) (fun h16 => ?_)
          · refine f_iinc (L' := [_, _, _, _]) hZ dX6_inLowestTerms_23 rfl rfl ?_
            refine f_goto (tgt := 2) hZ dX6_inLowestTerms_26 rfl ?_
            have hl : lowN s a b (m + 1) = lowN s a b m := if_neg (by rw [← he2]; omega)
            rw [hl] at hR
            exact ih (e + -1) (by omega) (by omega) hR
          · refine f_iload_n hZ dX6_inLowestTerms_19 rfl ?_
            refine f_iload_n hZ dX6_inLowestTerms_20 rfl ?_
            refine f_idiv hZ dX6_inLowestTerms_21 (by first | omega | exact ⟨by have := (tmodp (a := a) (b := e) (by omega) (by omega)).1; omega, by have := (tmodp (a := a) (b := e) (by omega) (by omega)).2; omega⟩ | exact ⟨by have := (tmodp (a := b) (b := e) (by omega) (by omega)).1; omega, by have := (tmodp (a := b) (b := e) (by omega) (by omega)).2; omega⟩ | exact rg_tdiv (by omega) (by omega)) (by first | omega | exact ⟨by have := (tmodp (a := a) (b := e) (by omega) (by omega)).1; omega, by have := (tmodp (a := a) (b := e) (by omega) (by omega)).2; omega⟩ | exact ⟨by have := (tmodp (a := b) (b := e) (by omega) (by omega)).1; omega, by have := (tmodp (a := b) (b := e) (by omega) (by omega)).2; omega⟩ | exact rg_tdiv (by omega) (by omega)) (by first | omega | exact ⟨by have := (tmodp (a := a) (b := e) (by omega) (by omega)).1; omega, by have := (tmodp (a := a) (b := e) (by omega) (by omega)).2; omega⟩ | exact ⟨by have := (tmodp (a := b) (b := e) (by omega) (by omega)).1; omega, by have := (tmodp (a := b) (b := e) (by omega) (by omega)).2; omega⟩ | exact rg_tdiv (by omega) (by omega)) (by first | omega | exact ⟨by have := (tmodp (a := a) (b := e) (by omega) (by omega)).1; omega, by have := (tmodp (a := a) (b := e) (by omega) (by omega)).2; omega⟩ | exact ⟨by have := (tmodp (a := b) (b := e) (by omega) (by omega)).1; omega, by have := (tmodp (a := b) (b := e) (by omega) (by omega)).2; omega⟩ | exact rg_tdiv (by omega) (by omega)) ?_
            exact f_retI hZ hR dX6_inLowestTerms_22 rfl (by first | omega | exact ⟨by have := (tmodp (a := a) (b := e) (by omega) (by omega)).1; omega, by have := (tmodp (a := a) (b := e) (by omega) (by omega)).2; omega⟩ | exact ⟨by have := (tmodp (a := b) (b := e) (by omega) (by omega)).1; omega, by have := (tmodp (a := b) (b := e) (by omega) (by omega)).2; omega⟩ | exact rg_tdiv (by omega) (by omega)) (by refine ⟨rfl, ?_⟩; show _ = (if _ then _ else _); rw [← he2, if_pos (by omega)])
  refine f_iload_n hZ dX6_inLowestTerms_0 rfl ?_
  refine f_istore_n (L' := [_, _, _, _]) hZ dX6_inLowestTerms_1 rfl rfl ?_
  exact loop (b - 1).toNat b (by omega) (by omega) hR

def hitF (K N P L : Int → Int) (n dmp s span : Int) : Int → Int := fun i => if drawZ K N P L n dmp (s + i) = span then 1 else 0
def chanceZ (K N P L : Int → Int) (n dmp s m span part : Int) : Int := if ¬ ((1 ≤ m ∧ m ≤ 20) ∧ (0 ≤ span ∧ span ≤ 250) ∧ (0 ≤ part ∧ part ≤ 1)) then -4611686018427387904 else lowN (if part = 0 then sumZ (hitF K N P L n dmp s span) m else m) (sumZ (hitF K N P L n dmp s span) m) m (m - 1).toNat
theorem hit_rg (K N P L : Int → Int) (n dmp s span : Int) {w : Int} (h : 0 ≤ w) : 0 ≤ sumZ (hitF K N P L n dmp s span) w ∧ sumZ (hitF K N P L n dmp s span) w ≤ w := by
  have := sumZ_bd (f := hitF K N P L n dmp s span) (a := 0) (b := 1) (by omega) (by omega) h (fun i _ _ => by unfold hitF; split <;> omega)
  omega
set_option maxRecDepth 20000 in
set_option maxHeartbeats 4000000 in
theorem t_X6_chance {X : fX} {M : fM} {d : Nat} {s n sp pt : Int} (hn0 : rg n) (hsp : rg sp) (hpt : rg pt) (hW : WfK M) : fC X (d + 4) mX6_chance [.ref (xa X 0), .int (iv s), .int (iv n), .int (iv sp), .int (iv pt)] M (QJ fun r M' => M' = M ∧ r = chanceZ (M 2) (M 3) (M 4) (M 5) (M 1 5) (M 1 6) s n sp pt) := by
  refine fC.of (L := [_, _, _, _, _, _, _]) (by decide +kernel) rfl (Nat.le_of_ble_eq_true rfl) (fun Z hZ hR => ?_)
  have loop : ∀ (m : Nat) (w : Int) , 0 ≤ w → w + m = n → ((1 ≤ n ∧ n ≤ 20) ∧ (0 ≤ sp ∧ sp ≤ 250) ∧ (0 ≤ pt ∧ pt ≤ 1)) → fG X mX6_chance Z 41 [.ref (xa X 0), .int (iv s), .int (iv n), .int (iv sp), .int (iv pt), .int (iv (sumZ (hitF (M 2) (M 3) (M 4) (M 5) (M 1 5) (M 1 6) s sp) w)), .int (iv w)] [] (M) := by
    intro m
    induction m with
    | zero =>
      intro w  h0 hw hok
      have hOw := hit_rg (M 2) (M 3) (M 4) (M 5) (M 1 5) (M 1 6) s sp h0
      refine f_iload hZ dX6_chance_41 rfl ?_
      refine f_iload_n hZ dX6_chance_43 rfl ?_
      refine f_ige (tgt := 68) hZ dX6_chance_44 rfl (by omega) (by omega) (fun h44 => ?_) (fun h44 => ?_)
      · refine f_iload hZ dX6_chance_68 rfl ?_
        refine f_ne (tgt := 78) hZ dX6_chance_70 rfl (by omega) (fun h70 => ?_) (fun h70 => ?_)
        · refine f_iload_n hZ dX6_chance_78 rfl ?_
          refine f_iload hZ dX6_chance_79 rfl ?_
          refine f_iload_n hZ dX6_chance_81 rfl ?_
          refine sX6_207 hZ dX6_chance_82 (t_X6_low (by omega) (by omega) (by omega)) (fun a82 M82 r82 h82 => ?_)
          obtain ⟨e82, h82⟩ := h82
          replace e82 := e82.symm
          subst e82
          refine f_i2l hZ dX6_chance_85 (by omega) ?_
          exact f_retJ hZ hR dX6_chance_86 rfl (by omega) (by refine ⟨rfl, ?_⟩; unfold chanceZ; rw [if_neg (by omega)]; have hwe : w = n := (by omega); subst hwe; first | (rw [if_pos (by omega)]; assumption) | (rw [if_neg (by omega)]; assumption))
        · refine f_iload hZ dX6_chance_73 rfl ?_
          refine f_goto (tgt := 79) hZ dX6_chance_75 rfl ?_
          refine f_iload hZ dX6_chance_79 rfl ?_
          refine f_iload_n hZ dX6_chance_81 rfl ?_
          refine sX6_207 hZ dX6_chance_82 (t_X6_low (by omega) (by omega) (by omega)) (fun a82 M82 r82 h82 => ?_)
          obtain ⟨e82, h82⟩ := h82
          replace e82 := e82.symm
          subst e82
          refine f_i2l hZ dX6_chance_85 (by omega) ?_
          exact f_retJ hZ hR dX6_chance_86 rfl (by omega) (by refine ⟨rfl, ?_⟩; unfold chanceZ; rw [if_neg (by omega)]; have hwe : w = n := (by omega); subst hwe; first | (rw [if_pos (by omega)]; assumption) | (rw [if_neg (by omega)]; assumption))
      · exfalso; omega
    | succ m ih =>
      intro w  h0 hw hok
      have hOw := hit_rg (M 2) (M 3) (M 4) (M 5) (M 1 5) (M 1 6) s sp h0
      refine f_iload hZ dX6_chance_41 rfl ?_
      refine f_iload_n hZ dX6_chance_43 rfl ?_
      refine f_ige (tgt := 68) hZ dX6_chance_44 rfl (by omega) (by omega) (fun h44 => ?_) (fun h44 => ?_)
      · exfalso; omega
      · refine f_aload_n hZ dX6_chance_47 rfl ?_
        refine f_iload_n hZ dX6_chance_48 rfl ?_
        refine f_iload hZ dX6_chance_49 rfl ?_
        refine f_iadd hZ dX6_chance_51 ?_
        refine vX6_204 hZ dX6_chance_52 (t_X6_drawn hW) (fun a52 M52 r52 h52 => ?_)
        obtain ⟨e52, h52⟩ := h52
        replace e52 := e52.symm
        subst e52
        subst h52
        refine f_iload_n hZ dX6_chance_55 rfl ?_
        refine f_ine (tgt := 62) hZ dX6_chance_56 rfl (by omega) (by omega) (fun h56 => ?_) (fun h56 => ?_)
        · refine f_iinc (L' := [_, _, _, _, _, _, _]) hZ dX6_chance_62 rfl rfl ?_
          refine f_goto (tgt := 41) hZ dX6_chance_65 rfl ?_
          have hh := ih (w + 1) (by omega) (by omega) hok
          rw [sumZ_succ _ (by omega)] at hh
          first | (rw [show hitF (M 2) (M 3) (M 4) (M 5) (M 1 5) (M 1 6) s sp w = 1 from if_pos (by assumption)] at hh; exact hh) | (rw [show hitF (M 2) (M 3) (M 4) (M 5) (M 1 5) (M 1 6) s sp w = 0 from if_neg (by assumption), Int.add_zero] at hh; exact hh)
        · refine f_iinc (L' := [_, _, _, _, _, _, _]) hZ dX6_chance_59 rfl rfl ?_
          refine f_iinc (L' := [_, _, _, _, _, _, _]) hZ dX6_chance_62 rfl rfl ?_
          refine f_goto (tgt := 41) hZ dX6_chance_65 rfl ?_
          have hh := ih (w + 1) (by omega) (by omega) hok
          rw [sumZ_succ _ (by omega)] at hh
          first | (rw [show hitF (M 2) (M 3) (M 4) (M 5) (M 1 5) (M 1 6) s sp w = 1 from if_pos (by assumption)] at hh; exact hh) | (rw [show hitF (M 2) (M 3) (M 4) (M 5) (M 1 5) (M 1 6) s sp w = 0 from if_neg (by assumption), Int.add_zero] at hh; exact hh)
  refine f_iload_n hZ dX6_chance_0 rfl ?_
  refine f_iconst hZ dX6_chance_1 ?_
  refine f_bipush hZ dX6_chance_2 ?_
  refine sX6_56 hZ dX6_chance_4 (t_X6_within (by omega) (by omega) (by omega)) (fun a4 M4 r4 h4 => ?_)
  obtain ⟨e4, h4⟩ := h4
  replace e4 := e4.symm
  subst e4
  refine f_eq (tgt := 31) hZ dX6_chance_7 rfl (by omega) (fun h7 => ?_) (fun h7 => ?_)
  · refine f_ldc2 (v := (-4611686018427387904 : Int64)) hZ (-4611686018427387904) dX6_chance_31 (tb_in 673 (by decide +kernel) (by decide +kernel)) (by decide) ?_
    exact f_retJ hZ hR dX6_chance_34 rfl (by omega) (by exact ⟨rfl, by unfold chanceZ; rw [if_pos (by omega)]⟩)
  · refine f_iload_n hZ dX6_chance_10 rfl ?_
    refine f_iconst hZ dX6_chance_11 ?_
    refine f_sipush hZ dX6_chance_12 ?_
    refine sX6_56 hZ dX6_chance_15 (t_X6_within (by omega) (by omega) (by omega)) (fun a15 M15 r15 h15 => ?_)
    obtain ⟨e15, h15⟩ := h15
    replace e15 := e15.symm
    subst e15
    refine f_eq (tgt := 31) hZ dX6_chance_18 rfl (by omega) (fun h18 => ?_) (fun h18 => ?_)
    · refine f_ldc2 (v := (-4611686018427387904 : Int64)) hZ (-4611686018427387904) dX6_chance_31 (tb_in 673 (by decide +kernel) (by decide +kernel)) (by decide) ?_
      exact f_retJ hZ hR dX6_chance_34 rfl (by omega) (by exact ⟨rfl, by unfold chanceZ; rw [if_pos (by omega)]⟩)
    · refine f_iload hZ dX6_chance_21 rfl ?_
      refine f_iconst hZ dX6_chance_23 ?_
      refine f_iconst hZ dX6_chance_24 ?_
      refine sX6_56 hZ dX6_chance_25 (t_X6_within (by omega) (by omega) (by omega)) (fun a25 M25 r25 h25 => ?_)
      obtain ⟨e25, h25⟩ := h25
      replace e25 := e25.symm
      subst e25
      refine f_ne (tgt := 35) hZ dX6_chance_28 rfl (by omega) (fun h28 => ?_) (fun h28 => ?_)
      · refine f_iconst hZ dX6_chance_35 ?_
        refine f_istore (L' := [_, _, _, _, _, _, _]) hZ dX6_chance_36 rfl rfl ?_
        refine f_iconst hZ dX6_chance_38 ?_
        refine f_istore (L' := [_, _, _, _, _, _, _]) hZ dX6_chance_39 rfl rfl ?_
        exact loop n.toNat 0 (by omega) (by omega) (by omega)
      · refine f_ldc2 (v := (-4611686018427387904 : Int64)) hZ (-4611686018427387904) dX6_chance_31 (tb_in 673 (by decide +kernel) (by decide +kernel)) (by decide) ?_
        exact f_retJ hZ hR dX6_chance_34 rfl (by omega) (by exact ⟨rfl, by unfold chanceZ; rw [if_pos (by omega)]⟩)

set_option maxRecDepth 20000 in
set_option maxHeartbeats 4000000 in
theorem t_X6_count {X : fX} {M : fM} {d : Nat} {q : Int} (hq : rg q) (hW : WfK M) : fC X (d + 1) mX6_count [.ref (xa X 0), .int (iv q)] M (QI fun r M' => M' = M ∧ r = countZ (M 1 5) (M 4) (M 5) (M 1 6) (M 1 7) (M 19 7) (M 19 6) (M 1 8) q) := by
  obtain ⟨hn, hdm, hmo, hA⟩ := hW
  replace hA : WfA (M 1 5) (M 2) (M 3) (M 4) (M 5) (M 6) := hA
  refine fC.of (L := [_, _]) (by decide +kernel) rfl (Nat.le_of_ble_eq_true rfl) (fun Z hZ hR => ?_)
  rcases (show (q < 0 ∨ 7 < q) ∨ q = 0 ∨ q = 1 ∨ q = 2 ∨ q = 3 ∨ q = 4 ∨ q = 5 ∨ q = 6 ∨ q = 7 by omega) with hqq | rfl | rfl | rfl | rfl | rfl | rfl | rfl | rfl
  · refine f_iload_n hZ dX6_count_0 rfl ?_
    refine f_tswOut (tgt := 112) hZ dX6_count_1 (by omega) (by omega) rfl ?_
    refine f_bipush hZ dX6_count_112 ?_
    exact f_retI hZ hR dX6_count_114 rfl (by omega) (by refine ⟨rfl, ?_⟩; unfold countZ; simp only [show ¬ q = 0 by omega, show ¬ q = 1 by omega, show ¬ q = 2 by omega, show ¬ q = 3 by omega, show ¬ q = 4 by omega, show ¬ q = 5 by omega, show ¬ q = 6 by omega, show ¬ q = 7 by omega, if_false])
  · refine f_iload_n hZ dX6_count_0 rfl ?_
    refine f_tswIn (tgt := 48) hZ (0) dX6_count_1 (by first | rfl | omega) (by omega) (by omega) (by omega) rfl rfl ?_
    refine f_aload_n hZ dX6_count_48 rfl ?_
    refine gX6_10 hZ dX6_count_49 ?_
    refine gX6_60_1 hZ dX6_count_52 (fun r52 => ?_)
    exact f_retI hZ hR dX6_count_55 rfl (by omega) (by first | exact ⟨rfl, rfl⟩ | exact ⟨rfl, by assumption⟩)
  · refine f_iload_n hZ dX6_count_0 rfl ?_
    refine f_tswIn (tgt := 56) hZ (1) dX6_count_1 (by first | rfl | omega) (by omega) (by omega) (by omega) rfl rfl ?_
    refine f_aload_n hZ dX6_count_56 rfl ?_
    refine gX6_10 hZ dX6_count_57 ?_
    refine vX6_210 hZ dX6_count_60 (by first | exact hC | exact isC1 | exact isC7 | exact isC13) (t_X0_burning isC1 hn) (fun a60 M60 r60 h60 => ?_)
    try simp only [Nat.reduceAdd] at h60
    obtain ⟨e60, h60⟩ := h60
    replace e60 := e60.symm
    subst e60
    exact f_retI hZ hR dX6_count_63 rfl (by omega) (by first | exact ⟨rfl, rfl⟩ | exact ⟨rfl, by assumption⟩)
  · refine f_iload_n hZ dX6_count_0 rfl ?_
    refine f_tswIn (tgt := 64) hZ (2) dX6_count_1 (by first | rfl | omega) (by omega) (by omega) (by omega) rfl rfl ?_
    refine f_aload_n hZ dX6_count_64 rfl ?_
    refine gX6_10 hZ dX6_count_65 ?_
    refine gX6_91_1 hZ dX6_count_68 (fun r68 => ?_)
    exact f_retI hZ hR dX6_count_71 rfl (by omega) (by first | exact ⟨rfl, rfl⟩ | exact ⟨rfl, by assumption⟩)
  · refine f_iload_n hZ dX6_count_0 rfl ?_
    refine f_tswIn (tgt := 72) hZ (3) dX6_count_1 (by first | rfl | omega) (by omega) (by omega) (by omega) rfl rfl ?_
    refine f_aload_n hZ dX6_count_72 rfl ?_
    refine gX6_10 hZ dX6_count_73 ?_
    refine gX6_94_1 hZ dX6_count_76 (fun r76 => ?_)
    exact f_retI hZ hR dX6_count_79 rfl (by omega) (by first | exact ⟨rfl, rfl⟩ | exact ⟨rfl, by assumption⟩)
  · refine f_iload_n hZ dX6_count_0 rfl ?_
    refine f_tswIn (tgt := 80) hZ (4) dX6_count_1 (by first | rfl | omega) (by omega) (by omega) (by omega) rfl rfl ?_
    refine f_aload_n hZ dX6_count_80 rfl ?_
    refine gX6_25 hZ dX6_count_81 ?_
    refine gX6_123 hZ dX6_count_84 (fun r84 => ?_)
    exact f_retI hZ hR dX6_count_87 rfl (by omega) (by first | exact ⟨rfl, rfl⟩ | exact ⟨rfl, by assumption⟩)
  · refine f_iload_n hZ dX6_count_0 rfl ?_
    refine f_tswIn (tgt := 88) hZ (5) dX6_count_1 (by first | rfl | omega) (by omega) (by omega) (by omega) rfl rfl ?_
    refine f_aload_n hZ dX6_count_88 rfl ?_
    refine gX6_25 hZ dX6_count_89 ?_
    refine gX6_213 hZ dX6_count_92 (fun r92 => ?_)
    exact f_retI hZ hR dX6_count_95 rfl (by omega) (by first | exact ⟨rfl, rfl⟩ | exact ⟨rfl, by assumption⟩)
  · refine f_iload_n hZ dX6_count_0 rfl ?_
    refine f_tswIn (tgt := 96) hZ (6) dX6_count_1 (by first | rfl | omega) (by omega) (by omega) (by omega) rfl rfl ?_
    refine f_aload_n hZ dX6_count_96 rfl ?_
    refine gX6_10 hZ dX6_count_97 ?_
    refine gX6_124_1 hZ dX6_count_100 (fun r100 => ?_)
    exact f_retI hZ hR dX6_count_103 rfl (by omega) (by first | exact ⟨rfl, rfl⟩ | exact ⟨rfl, by assumption⟩)
  · refine f_iload_n hZ dX6_count_0 rfl ?_
    refine f_tswIn (tgt := 104) hZ (7) dX6_count_1 (by first | rfl | omega) (by omega) (by omega) (by omega) rfl rfl ?_
    refine f_aload_n hZ dX6_count_104 rfl ?_
    refine gX6_10 hZ dX6_count_105 ?_
    refine vX6_215 hZ dX6_count_108 (by first | exact hC | exact isC1 | exact isC7 | exact isC13) (t_X0_partsInAll isC1 hn hA) (fun a108 M108 r108 h108 => ?_)
    try simp only [Nat.reduceAdd] at h108
    obtain ⟨e108, h108⟩ := h108
    replace e108 := e108.symm
    subst e108
    exact f_retI hZ hR dX6_count_111 rfl (by omega) (by first | exact ⟨rfl, rfl⟩ | exact ⟨rfl, by assumption⟩)

set_option maxRecDepth 20000 in
set_option maxHeartbeats 4000000 in
theorem t_X6_image {X : fX} {M : fM} {d : Nat} : fC X (d + 2) mX6_image [.ref (xa X 0)] M (QI fun r M' => M' = up (takeC M 7 1) 0 8 1 ∧ r = M 1 5) := by
  refine fC.of (L := [_]) (by decide +kernel) rfl (Nat.le_of_ble_eq_true rfl) (fun Z hZ hR => ?_)
  refine f_aload_n hZ dX6_image_0 rfl ?_
  refine gX6_16 hZ dX6_image_1 ?_
  refine f_aload_n hZ dX6_image_4 rfl ?_
  refine gX6_10 hZ dX6_image_5 ?_
  refine vX6_193 hZ dX6_image_8 (by first | exact hC | exact isC1 | exact isC7 | exact isC13) (t_X0_take_7_1) (fun M8 h8 => ?_)
  try simp only [Nat.reduceAdd] at h8
  subst h8
  refine f_aload_n hZ dX6_image_11 rfl ?_
  refine f_iconst hZ dX6_image_12 ?_
  refine pX6_52 hZ dX6_image_13 (by omega) ?_
  refine f_aload_n hZ dX6_image_16 rfl ?_
  refine gX6_16 hZ dX6_image_17 ?_
  refine gX6_60_7 hZ dX6_image_20 (fun r20 => ?_)
  try simp only [Nat.reduceAdd] at r20 ⊢
  exact f_retI hZ hR dX6_image_23 rfl (by omega) (by exact ⟨rfl, rfl⟩)

set_option maxRecDepth 20000 in
set_option maxHeartbeats 4000000 in
theorem t_X6_back {X : fX} {M : fM} {d : Nat} : fC X (d + 2) mX6_back [.ref (xa X 0)] M (QI fun r M' => (M 0 8 = 0 ∧ r = -3 ∧ M' = M) ∨ (M 0 8 ≠ 0 ∧ r = M 7 5 ∧ M' = fgt (takeC M 1 7))) := by
  refine fC.of (L := [_]) (by decide +kernel) rfl (Nat.le_of_ble_eq_true rfl) (fun Z hZ hR => ?_)
  refine f_aload_n hZ dX6_back_0 rfl ?_
  refine gX6_52 hZ dX6_back_1 (fun r1 => ?_)
  refine f_ne (tgt := 10) hZ dX6_back_4 rfl (by omega) (fun h4 => ?_) (fun h4 => ?_)
  · refine f_aload_n hZ dX6_back_10 rfl ?_
    refine gX6_10 hZ dX6_back_11 ?_
    refine f_aload_n hZ dX6_back_14 rfl ?_
    refine gX6_16 hZ dX6_back_15 ?_
    refine vX6_193 hZ dX6_back_18 (by first | exact hC | exact isC1 | exact isC7 | exact isC13) (t_X0_take_1_7) (fun M18 h18 => ?_)
    try simp only [Nat.reduceAdd] at h18
    subst h18
    refine f_aload_n hZ dX6_back_21 rfl ?_
    refine gX6_34 hZ dX6_back_22 ?_
    refine vX6_64 hZ dX6_back_25 (t_X4_forget) (fun M25 h25 => ?_)
    subst h25
    refine f_aload_n hZ dX6_back_28 rfl ?_
    refine gX6_10 hZ dX6_back_29 ?_
    refine gX6_60_1 hZ dX6_back_32 (fun r32 => ?_)
    try simp only [Nat.reduceAdd] at r32 ⊢
    exact f_retI hZ hR dX6_back_35 rfl (by omega) (by first | exact Or.inl ⟨by omega, rfl, rfl⟩ | exact Or.inr ⟨by omega, rfl, rfl⟩)
  · refine f_bipush hZ dX6_back_7 ?_
    exact f_retI hZ hR dX6_back_9 rfl (by omega) (by first | exact Or.inl ⟨by omega, rfl, rfl⟩ | exact Or.inr ⟨by omega, rfl, rfl⟩)

abbrev takenP (n : Int) (K N : Int → Int) (w k r : Int) : Prop := (¬ (0 ≤ k ∧ k ≤ 5) ∧ r = -2) ∨ ((0 ≤ k ∧ k ≤ 5) ∧ ¬ (0 ≤ w ∧ w < n) ∧ r = -11) ∨ ((0 ≤ k ∧ k ≤ 5) ∧ (0 ≤ w ∧ w < n) ∧ underP (K w) k ∧ r = N w) ∨ ((0 ≤ k ∧ k ≤ 5) ∧ (0 ≤ w ∧ w < n) ∧ ¬ underP (K w) k ∧ r = -13)
set_option maxRecDepth 20000 in
set_option maxHeartbeats 4000000 in
theorem t_X6_taken {X : fX} {M : fM} {d : Nat} {w k : Int} (hw : rg w) (hk : rg k) (hW : WfK M) : fC X (d + 1) mX6_taken [.ref (xa X 0), .int (iv w), .int (iv k)] M (QI fun r M' => M' = M ∧ takenP (M 1 5) (M 2) (M 3) w k r) := by
  refine fC.of (L := [_, _, _]) (by decide +kernel) rfl (Nat.le_of_ble_eq_true rfl) (fun Z hZ hR => ?_)
  obtain ⟨hn, hdm, hmo, hA⟩ := hW
  replace hA : WfA (M 1 5) (M 2) (M 3) (M 4) (M 5) (M 6) := hA
  refine f_iload_n hZ dX6_taken_0 rfl ?_
  refine f_iconst hZ dX6_taken_1 ?_
  refine f_iconst hZ dX6_taken_2 ?_
  refine sX6_56 hZ dX6_taken_3 (t_X6_within (by omega) (by omega) (by omega)) (fun a3 M3 r3 h3 => ?_)
  obtain ⟨e3, h3⟩ := h3
  replace e3 := e3.symm
  subst e3
  refine f_ne (tgt := 12) hZ dX6_taken_6 rfl (by omega) (fun h6 => ?_) (fun h6 => ?_)
  · refine f_aload_n hZ dX6_taken_12 rfl ?_
    refine gX6_10 hZ dX6_taken_13 ?_
    refine f_iload_n hZ dX6_taken_16 rfl ?_
    refine vX6_75 hZ dX6_taken_17 (by first | exact hC | exact isC1 | exact isC7 | exact isC13) (t_X0_has isC1 (by omega) hn) (fun a17 M17 r17 h17 => ?_)
    try simp only [Nat.reduceAdd] at h17
    obtain ⟨e17, h17⟩ := h17
    replace e17 := e17.symm
    subst e17
    refine f_ne (tgt := 26) hZ dX6_taken_20 rfl (by omega) (fun h20 => ?_) (fun h20 => ?_)
    · have hq := hA w (by omega) (by omega)
      refine f_aload_n hZ dX6_taken_26 rfl ?_
      refine gX6_10 hZ dX6_taken_27 ?_
      refine gX6_106_1 hZ dX6_taken_30 ?_
      refine f_iload_n hZ dX6_taken_33 rfl ?_
      refine f_iaload hZ dX6_taken_34 (by first | rfl | exact hC.t1 | exact hC.t2 | exact hC.t3 | exact hC.t4 | exact hC.t5) (by first | rfl | exact hC.l1 | exact hC.l2 | exact hC.l3 | exact hC.l4 | exact hC.l5) (by omega) (by omega) (fun r34 => ?_)
      refine f_iload_n hZ dX6_taken_35 rfl ?_
      refine sX6_247 hZ dX6_taken_36 (t_X6_isUnder (by omega) (by omega)) (fun a36 M36 r36 h36 => ?_)
      obtain ⟨e36, h36⟩ := h36
      replace e36 := e36.symm
      subst e36
      refine f_eq (tgt := 54) hZ dX6_taken_39 rfl (by omega) (fun h39 => ?_) (fun h39 => ?_)
      · refine f_bipush hZ dX6_taken_54 ?_
        exact f_retI hZ hR dX6_taken_56 rfl (by omega) (by refine ⟨rfl, ?_⟩; first | exact Or.inl ⟨by omega, rfl⟩ | exact Or.inr (Or.inl ⟨by omega, by omega, rfl⟩) | exact Or.inr (Or.inr (Or.inl ⟨by omega, by omega, by omega, rfl⟩)) | exact Or.inr (Or.inr (Or.inr ⟨by omega, by omega, by omega, rfl⟩)))
      · refine f_aload_n hZ dX6_taken_42 rfl ?_
        refine gX6_10 hZ dX6_taken_43 ?_
        refine gX6_103_1 hZ dX6_taken_46 ?_
        refine f_iload_n hZ dX6_taken_49 rfl ?_
        refine f_iaload hZ dX6_taken_50 (by first | rfl | exact hC.t1 | exact hC.t2 | exact hC.t3 | exact hC.t4 | exact hC.t5) (by first | rfl | exact hC.l1 | exact hC.l2 | exact hC.l3 | exact hC.l4 | exact hC.l5) (by omega) (by omega) (fun r50 => ?_)
        refine f_goto (tgt := 56) hZ dX6_taken_51 rfl ?_
        exact f_retI hZ hR dX6_taken_56 rfl (by omega) (by refine ⟨rfl, ?_⟩; first | exact Or.inl ⟨by omega, rfl⟩ | exact Or.inr (Or.inl ⟨by omega, by omega, rfl⟩) | exact Or.inr (Or.inr (Or.inl ⟨by omega, by omega, by omega, rfl⟩)) | exact Or.inr (Or.inr (Or.inr ⟨by omega, by omega, by omega, rfl⟩)))
    · refine f_bipush hZ dX6_taken_23 ?_
      exact f_retI hZ hR dX6_taken_25 rfl (by omega) (by refine ⟨rfl, ?_⟩; first | exact Or.inl ⟨by omega, rfl⟩ | exact Or.inr (Or.inl ⟨by omega, by omega, rfl⟩) | exact Or.inr (Or.inr (Or.inl ⟨by omega, by omega, by omega, rfl⟩)) | exact Or.inr (Or.inr (Or.inr ⟨by omega, by omega, by omega, rfl⟩)))
  · refine f_bipush hZ dX6_taken_9 ?_
    exact f_retI hZ hR dX6_taken_11 rfl (by omega) (by refine ⟨rfl, ?_⟩; first | exact Or.inl ⟨by omega, rfl⟩ | exact Or.inr (Or.inl ⟨by omega, by omega, rfl⟩) | exact Or.inr (Or.inr (Or.inl ⟨by omega, by omega, by omega, rfl⟩)) | exact Or.inr (Or.inr (Or.inr ⟨by omega, by omega, by omega, rfl⟩)))

abbrev sheetBad (s t n : Int) : Prop := ¬ (0 ≤ s ∧ s < 4) ∨ ¬ (-1 ≤ t ∧ t ≤ 2) ∨ (t ≠ -1 ∧ 40 < n)
set_option maxRecDepth 20000 in
set_option maxHeartbeats 4000000 in
theorem t_X6_sheet {X : fX} {M : fM} {d : Nat} {s t n : Int} (hs : rg s) (ht : rg t) (hn : rg n) : fC X (d + 2) mX6_sheet [.ref (xa X 0), .int (iv s), .int (iv t), .int (iv n)] M (QI fun r M' => (sheetBad s t n ∧ r = -2 ∧ M' = M) ∨ (¬ sheetBad s t n ∧ (t ≠ -1 ∧ n < 0) ∧ r = -14 ∧ M' = M) ∨ (¬ sheetBad s t n ∧ ¬ (t ≠ -1 ∧ n < 0) ∧ r = 1 ∧ M' = layM M s t n)) := by
  refine fC.of (L := [_, _, _, _]) (by decide +kernel) rfl (Nat.le_of_ble_eq_true rfl) (fun Z hZ hR => ?_)
  refine f_aload_n hZ dX6_sheet_0 rfl ?_
  refine gX6_41 hZ dX6_sheet_1 ?_
  refine f_iload_n hZ dX6_sheet_4 rfl ?_
  refine vX6_186 hZ dX6_sheet_5 (t_X3_has (by omega)) (fun a5 M5 r5 h5 => ?_)
  obtain ⟨e5, h5⟩ := h5
  replace e5 := e5.symm
  subst e5
  refine f_eq (tgt := 20) hZ dX6_sheet_8 rfl (by omega) (fun h8 => ?_) (fun h8 => ?_)
  · refine f_bipush hZ dX6_sheet_20 ?_
    exact f_retI hZ hR dX6_sheet_22 rfl (by omega) (by first | exact Or.inl ⟨by omega, rfl, rfl⟩ | exact Or.inr (Or.inl ⟨by omega, by omega, rfl, rfl⟩) | exact Or.inr (Or.inr ⟨by omega, by omega, rfl, rfl⟩))
  · refine f_iload_n hZ dX6_sheet_11 rfl ?_
    refine f_iconst hZ dX6_sheet_12 ?_
    refine f_iconst hZ dX6_sheet_13 ?_
    refine sX6_56 hZ dX6_sheet_14 (t_X6_within (by omega) (by omega) (by omega)) (fun a14 M14 r14 h14 => ?_)
    obtain ⟨e14, h14⟩ := h14
    replace e14 := e14.symm
    subst e14
    refine f_ne (tgt := 23) hZ dX6_sheet_17 rfl (by omega) (fun h17 => ?_) (fun h17 => ?_)
    · refine f_iload_n hZ dX6_sheet_23 rfl ?_
      refine f_iconst hZ dX6_sheet_24 ?_
      refine f_ieq (tgt := 37) hZ dX6_sheet_25 rfl (by omega) (by omega) (fun h25 => ?_) (fun h25 => ?_)
      · refine f_iload_n hZ dX6_sheet_37 rfl ?_
        refine f_iconst hZ dX6_sheet_38 ?_
        refine f_ieq (tgt := 49) hZ dX6_sheet_39 rfl (by omega) (by omega) (fun h39 => ?_) (fun h39 => ?_)
        · refine f_aload_n hZ dX6_sheet_49 rfl ?_
          refine gX6_41 hZ dX6_sheet_50 ?_
          refine f_iload_n hZ dX6_sheet_53 rfl ?_
          refine f_iload_n hZ dX6_sheet_54 rfl ?_
          refine f_iload_n hZ dX6_sheet_55 rfl ?_
          refine vX6_218 hZ dX6_sheet_56 (t_X3_lay (by omega) (by omega) (by omega)) (fun M56 h56 => ?_)
          subst h56
          refine f_iconst hZ dX6_sheet_59 ?_
          exact f_retI hZ hR dX6_sheet_60 rfl (by omega) (by first | exact Or.inl ⟨by omega, rfl, rfl⟩ | exact Or.inr (Or.inl ⟨by omega, by omega, rfl, rfl⟩) | exact Or.inr (Or.inr ⟨by omega, by omega, rfl, rfl⟩))
        · refine f_iload_n hZ dX6_sheet_42 rfl ?_
          refine f_ge (tgt := 49) hZ dX6_sheet_43 rfl (by omega) (fun h43 => ?_) (fun h43 => ?_)
          · refine f_aload_n hZ dX6_sheet_49 rfl ?_
            refine gX6_41 hZ dX6_sheet_50 ?_
            refine f_iload_n hZ dX6_sheet_53 rfl ?_
            refine f_iload_n hZ dX6_sheet_54 rfl ?_
            refine f_iload_n hZ dX6_sheet_55 rfl ?_
            refine vX6_218 hZ dX6_sheet_56 (t_X3_lay (by omega) (by omega) (by omega)) (fun M56 h56 => ?_)
            subst h56
            refine f_iconst hZ dX6_sheet_59 ?_
            exact f_retI hZ hR dX6_sheet_60 rfl (by omega) (by first | exact Or.inl ⟨by omega, rfl, rfl⟩ | exact Or.inr (Or.inl ⟨by omega, by omega, rfl, rfl⟩) | exact Or.inr (Or.inr ⟨by omega, by omega, rfl, rfl⟩))
          · refine f_bipush hZ dX6_sheet_46 ?_
            exact f_retI hZ hR dX6_sheet_48 rfl (by omega) (by first | exact Or.inl ⟨by omega, rfl, rfl⟩ | exact Or.inr (Or.inl ⟨by omega, by omega, rfl, rfl⟩) | exact Or.inr (Or.inr ⟨by omega, by omega, rfl, rfl⟩))
      · refine f_iload_n hZ dX6_sheet_28 rfl ?_
        refine f_bipush hZ dX6_sheet_29 ?_
        refine f_ile (tgt := 37) hZ dX6_sheet_31 rfl (by omega) (by omega) (fun h31 => ?_) (fun h31 => ?_)
        · refine f_iload_n hZ dX6_sheet_37 rfl ?_
          refine f_iconst hZ dX6_sheet_38 ?_
          refine f_ieq (tgt := 49) hZ dX6_sheet_39 rfl (by omega) (by omega) (fun h39 => ?_) (fun h39 => ?_)
          · refine f_aload_n hZ dX6_sheet_49 rfl ?_
            refine gX6_41 hZ dX6_sheet_50 ?_
            refine f_iload_n hZ dX6_sheet_53 rfl ?_
            refine f_iload_n hZ dX6_sheet_54 rfl ?_
            refine f_iload_n hZ dX6_sheet_55 rfl ?_
            refine vX6_218 hZ dX6_sheet_56 (t_X3_lay (by omega) (by omega) (by omega)) (fun M56 h56 => ?_)
            subst h56
            refine f_iconst hZ dX6_sheet_59 ?_
            exact f_retI hZ hR dX6_sheet_60 rfl (by omega) (by first | exact Or.inl ⟨by omega, rfl, rfl⟩ | exact Or.inr (Or.inl ⟨by omega, by omega, rfl, rfl⟩) | exact Or.inr (Or.inr ⟨by omega, by omega, rfl, rfl⟩))
          · refine f_iload_n hZ dX6_sheet_42 rfl ?_
            refine f_ge (tgt := 49) hZ dX6_sheet_43 rfl (by omega) (fun h43 => ?_) (fun h43 => ?_)
            · refine f_aload_n hZ dX6_sheet_49 rfl ?_
              refine gX6_41 hZ dX6_sheet_50 ?_
              refine f_iload_n hZ dX6_sheet_53 rfl ?_
              refine f_iload_n hZ dX6_sheet_54 rfl ?_
              refine f_iload_n hZ dX6_sheet_55 rfl ?_
              refine vX6_218 hZ dX6_sheet_56 (t_X3_lay (by omega) (by omega) (by omega)) (fun M56 h56 => ?_)
              subst h56
              refine f_iconst hZ dX6_sheet_59 ?_
              exact f_retI hZ hR dX6_sheet_60 rfl (by omega) (by first | exact Or.inl ⟨by omega, rfl, rfl⟩ | exact Or.inr (Or.inl ⟨by omega, by omega, rfl, rfl⟩) | exact Or.inr (Or.inr ⟨by omega, by omega, rfl, rfl⟩))
            · refine f_bipush hZ dX6_sheet_46 ?_
              exact f_retI hZ hR dX6_sheet_48 rfl (by omega) (by first | exact Or.inl ⟨by omega, rfl, rfl⟩ | exact Or.inr (Or.inl ⟨by omega, by omega, rfl, rfl⟩) | exact Or.inr (Or.inr ⟨by omega, by omega, rfl, rfl⟩))
        · refine f_bipush hZ dX6_sheet_34 ?_
          exact f_retI hZ hR dX6_sheet_36 rfl (by omega) (by first | exact Or.inl ⟨by omega, rfl, rfl⟩ | exact Or.inr (Or.inl ⟨by omega, by omega, rfl, rfl⟩) | exact Or.inr (Or.inr ⟨by omega, by omega, rfl, rfl⟩))
    · refine f_bipush hZ dX6_sheet_20 ?_
      exact f_retI hZ hR dX6_sheet_22 rfl (by omega) (by first | exact Or.inl ⟨by omega, rfl, rfl⟩ | exact Or.inr (Or.inl ⟨by omega, by omega, rfl, rfl⟩) | exact Or.inr (Or.inr ⟨by omega, by omega, rfl, rfl⟩))

set_option maxRecDepth 20000 in
set_option maxHeartbeats 4000000 in
theorem t_X6_cell {X : fX} {M : fM} {d : Nat} {s i v : Int} (hs : rg s) (hi : rg i) (hv : rg v) (hW : WfS M) : fC X (d + 4) mX6_cell [.ref (xa X 0), .int (iv s), .int (iv i), .int (iv v)] M (QI fun r M' => (¬ (0 ≤ s ∧ s < 4) ∧ r = -2 ∧ M' = M) ∨ ((0 ≤ s ∧ s < 4) ∧ M 55 s = -1 ∧ r = -11 ∧ M' = M) ∨ ((0 ≤ s ∧ s < 4) ∧ M 55 s ≠ -1 ∧ ¬ reachP M s i 1 ∧ r = -12 ∧ M' = M) ∨ (reachP M s i 1 ∧ r = 1 ∧ M' = up M (51 + s.toNat) i (cutZ (M 55 s) v))) := by
  refine fC.of (L := [_, _, _, _]) (by decide +kernel) rfl (Nat.le_of_ble_eq_true rfl) (fun Z hZ hR => ?_)
  refine f_aload_n hZ dX6_cell_0 rfl ?_
  refine gX6_41 hZ dX6_cell_1 ?_
  refine f_iload_n hZ dX6_cell_4 rfl ?_
  refine vX6_186 hZ dX6_cell_5 (t_X3_has (by omega)) (fun a5 M5 r5 h5 => ?_)
  obtain ⟨e5, h5⟩ := h5
  replace e5 := e5.symm
  subst e5
  refine f_ne (tgt := 14) hZ dX6_cell_8 rfl (by omega) (fun h8 => ?_) (fun h8 => ?_)
  · refine f_aload_n hZ dX6_cell_14 rfl ?_
    refine gX6_41 hZ dX6_cell_15 ?_
    refine f_iload_n hZ dX6_cell_18 rfl ?_
    refine vX6_187 hZ dX6_cell_19 (t_X3_lacks (by omega)) (fun a19 M19 r19 h19 => ?_)
    obtain ⟨e19, h19⟩ := h19
    replace e19 := e19.symm
    subst e19
    refine f_eq (tgt := 28) hZ dX6_cell_22 rfl (by omega) (fun h22 => ?_) (fun h22 => ?_)
    · refine f_aload_n hZ dX6_cell_28 rfl ?_
      refine gX6_41 hZ dX6_cell_29 ?_
      refine f_iload_n hZ dX6_cell_32 rfl ?_
      refine f_iload_n hZ dX6_cell_33 rfl ?_
      refine f_iconst hZ dX6_cell_34 ?_
      refine vX6_222 hZ dX6_cell_35 (t_X3_reaches (by omega) (by omega) (by omega) hW) (fun a35 M35 r35 h35 => ?_)
      obtain ⟨e35, h35⟩ := h35
      replace e35 := e35.symm
      subst e35
      refine f_ne (tgt := 44) hZ dX6_cell_38 rfl (by omega) (fun h38 => ?_) (fun h38 => ?_)
      · refine f_aload_n hZ dX6_cell_44 rfl ?_
        refine gX6_41 hZ dX6_cell_45 ?_
        refine f_iload_n hZ dX6_cell_48 rfl ?_
        refine f_iload_n hZ dX6_cell_49 rfl ?_
        refine f_iload_n hZ dX6_cell_50 rfl ?_
        refine vX6_225 hZ dX6_cell_51 (t_X3_put (by omega) (by omega) (by omega) hW) (fun M51 h51 => ?_)
        rcases h51 with ⟨-, rfl⟩ | ⟨hz, -⟩
        rotate_left
        · exfalso; omega
        refine f_iconst hZ dX6_cell_54 ?_
        exact f_retI hZ hR dX6_cell_55 rfl (by omega) (by first | exact Or.inl ⟨by omega, rfl, rfl⟩ | exact Or.inr (Or.inl ⟨by omega, by omega, rfl, rfl⟩) | exact Or.inr (Or.inr (Or.inl ⟨by omega, by omega, by omega, rfl, rfl⟩)) | exact Or.inr (Or.inr (Or.inr ⟨by omega, rfl, rfl⟩)))
      · refine f_bipush hZ dX6_cell_41 ?_
        exact f_retI hZ hR dX6_cell_43 rfl (by omega) (by first | exact Or.inl ⟨by omega, rfl, rfl⟩ | exact Or.inr (Or.inl ⟨by omega, by omega, rfl, rfl⟩) | exact Or.inr (Or.inr (Or.inl ⟨by omega, by omega, by omega, rfl, rfl⟩)) | exact Or.inr (Or.inr (Or.inr ⟨by omega, rfl, rfl⟩)))
    · refine f_bipush hZ dX6_cell_25 ?_
      exact f_retI hZ hR dX6_cell_27 rfl (by omega) (by first | exact Or.inl ⟨by omega, rfl, rfl⟩ | exact Or.inr (Or.inl ⟨by omega, by omega, rfl, rfl⟩) | exact Or.inr (Or.inr (Or.inl ⟨by omega, by omega, by omega, rfl, rfl⟩)) | exact Or.inr (Or.inr (Or.inr ⟨by omega, rfl, rfl⟩)))
  · refine f_bipush hZ dX6_cell_11 ?_
    exact f_retI hZ hR dX6_cell_13 rfl (by omega) (by first | exact Or.inl ⟨by omega, rfl, rfl⟩ | exact Or.inr (Or.inl ⟨by omega, by omega, rfl, rfl⟩) | exact Or.inr (Or.inr (Or.inl ⟨by omega, by omega, by omega, rfl, rfl⟩)) | exact Or.inr (Or.inr (Or.inr ⟨by omega, rfl, rfl⟩)))

set_option maxRecDepth 20000 in
set_option maxHeartbeats 4000000 in
theorem t_X6_copy {X : fX} {M : fM} {d : Nat} {s i t j n : Int} (hs : rg s) (hi : rg i) (ht : rg t) (hj : rg j) (hn : rg n) (hW : WfS M) : fC X (d + 4) mX6_copy [.ref (xa X 0), .int (iv s), .int (iv i), .int (iv t), .int (iv j), .int (iv n)] M (QI fun r M' => (¬ ((0 ≤ s ∧ s < 4) ∧ (0 ≤ t ∧ t < 4)) ∧ r = -2 ∧ M' = M) ∨ (((0 ≤ s ∧ s < 4) ∧ (0 ≤ t ∧ t < 4)) ∧ (M 55 s = -1 ∨ M 55 t = -1) ∧ r = -11 ∧ M' = M) ∨ (((0 ≤ s ∧ s < 4) ∧ (0 ≤ t ∧ t < 4)) ∧ ¬ (M 55 s = -1 ∨ M 55 t = -1) ∧ M 55 s ≠ M 55 t ∧ r = -13 ∧ M' = M) ∨ (((0 ≤ s ∧ s < 4) ∧ (0 ≤ t ∧ t < 4)) ∧ ¬ (M 55 s = -1 ∨ M 55 t = -1) ∧ M 55 s = M 55 t ∧ ¬ (reachP M s i n ∧ reachP M t j n) ∧ r = -12 ∧ M' = M) ∨ ((reachP M s i n ∧ reachP M t j n) ∧ M 55 s = M 55 t ∧ r = n ∧ M' = cpM M (51 + s.toNat) (51 + t.toNat) i j n)) := by
  refine fC.of (L := [_, _, _, _, _, _]) (by decide +kernel) rfl (Nat.le_of_ble_eq_true rfl) (fun Z hZ hR => ?_)
  refine f_aload_n hZ dX6_copy_0 rfl ?_
  refine gX6_41 hZ dX6_copy_1 ?_
  refine f_iload_n hZ dX6_copy_4 rfl ?_
  refine vX6_186 hZ dX6_copy_5 (t_X3_has (by omega)) (fun a5 M5 r5 h5 => ?_)
  obtain ⟨e5, h5⟩ := h5
  replace e5 := e5.symm
  subst e5
  refine f_eq (tgt := 22) hZ dX6_copy_8 rfl (by omega) (fun h8 => ?_) (fun h8 => ?_)
  · refine f_bipush hZ dX6_copy_22 ?_
    exact f_retI hZ hR dX6_copy_24 rfl (by omega) (by first | exact Or.inl ⟨by omega, rfl, rfl⟩ | exact Or.inr (Or.inl ⟨by omega, by omega, rfl, rfl⟩) | exact Or.inr (Or.inr (Or.inl ⟨by omega, by omega, by omega, rfl, rfl⟩)) | exact Or.inr (Or.inr (Or.inr (Or.inl ⟨by omega, by omega, by omega, by omega, rfl, rfl⟩))) | exact Or.inr (Or.inr (Or.inr (Or.inr ⟨by omega, by omega, rfl, rfl⟩))))
  · refine f_aload_n hZ dX6_copy_11 rfl ?_
    refine gX6_41 hZ dX6_copy_12 ?_
    refine f_iload_n hZ dX6_copy_15 rfl ?_
    refine vX6_186 hZ dX6_copy_16 (t_X3_has (by omega)) (fun a16 M16 r16 h16 => ?_)
    obtain ⟨e16, h16⟩ := h16
    replace e16 := e16.symm
    subst e16
    refine f_ne (tgt := 25) hZ dX6_copy_19 rfl (by omega) (fun h19 => ?_) (fun h19 => ?_)
    · refine f_aload_n hZ dX6_copy_25 rfl ?_
      refine gX6_41 hZ dX6_copy_26 ?_
      refine f_iload_n hZ dX6_copy_29 rfl ?_
      refine vX6_187 hZ dX6_copy_30 (t_X3_lacks (by omega)) (fun a30 M30 r30 h30 => ?_)
      obtain ⟨e30, h30⟩ := h30
      replace e30 := e30.symm
      subst e30
      refine f_ne (tgt := 47) hZ dX6_copy_33 rfl (by omega) (fun h33 => ?_) (fun h33 => ?_)
      · refine f_bipush hZ dX6_copy_47 ?_
        exact f_retI hZ hR dX6_copy_49 rfl (by omega) (by first | exact Or.inl ⟨by omega, rfl, rfl⟩ | exact Or.inr (Or.inl ⟨by omega, by omega, rfl, rfl⟩) | exact Or.inr (Or.inr (Or.inl ⟨by omega, by omega, by omega, rfl, rfl⟩)) | exact Or.inr (Or.inr (Or.inr (Or.inl ⟨by omega, by omega, by omega, by omega, rfl, rfl⟩))) | exact Or.inr (Or.inr (Or.inr (Or.inr ⟨by omega, by omega, rfl, rfl⟩))))
      · refine f_aload_n hZ dX6_copy_36 rfl ?_
        refine gX6_41 hZ dX6_copy_37 ?_
        refine f_iload_n hZ dX6_copy_40 rfl ?_
        refine vX6_187 hZ dX6_copy_41 (t_X3_lacks (by omega)) (fun a41 M41 r41 h41 => ?_)
        obtain ⟨e41, h41⟩ := h41
        replace e41 := e41.symm
        subst e41
        refine f_eq (tgt := 50) hZ dX6_copy_44 rfl (by omega) (fun h44 => ?_) (fun h44 => ?_)
        · refine f_aload_n hZ dX6_copy_50 rfl ?_
          refine gX6_41 hZ dX6_copy_51 ?_
          refine gX6_228 hZ dX6_copy_54 ?_
          refine f_iload_n hZ dX6_copy_57 rfl ?_
          refine f_iaload hZ dX6_copy_58 (by first | rfl | exact rowT (by omega)) (by first | rfl | exact rowL (by omega)) (by omega) (by omega) (fun r58 => ?_)
          refine f_aload_n hZ dX6_copy_59 rfl ?_
          refine gX6_41 hZ dX6_copy_60 ?_
          refine gX6_228 hZ dX6_copy_63 ?_
          refine f_iload_n hZ dX6_copy_66 rfl ?_
          refine f_iaload hZ dX6_copy_67 (by first | rfl | exact rowT (by omega)) (by first | rfl | exact rowL (by omega)) (by omega) (by omega) (fun r67 => ?_)
          refine f_ieq (tgt := 74) hZ dX6_copy_68 rfl (by omega) (by omega) (fun h68 => ?_) (fun h68 => ?_)
          · refine f_aload_n hZ dX6_copy_74 rfl ?_
            refine gX6_41 hZ dX6_copy_75 ?_
            refine f_iload_n hZ dX6_copy_78 rfl ?_
            refine f_iload_n hZ dX6_copy_79 rfl ?_
            refine f_iload hZ dX6_copy_80 rfl ?_
            refine vX6_222 hZ dX6_copy_82 (t_X3_reaches (by omega) (by omega) (by omega) hW) (fun a82 M82 r82 h82 => ?_)
            obtain ⟨e82, h82⟩ := h82
            replace e82 := e82.symm
            subst e82
            refine f_eq (tgt := 103) hZ dX6_copy_85 rfl (by omega) (fun h85 => ?_) (fun h85 => ?_)
            · refine f_bipush hZ dX6_copy_103 ?_
              exact f_retI hZ hR dX6_copy_105 rfl (by omega) (by first | exact Or.inl ⟨by omega, rfl, rfl⟩ | exact Or.inr (Or.inl ⟨by omega, by omega, rfl, rfl⟩) | exact Or.inr (Or.inr (Or.inl ⟨by omega, by omega, by omega, rfl, rfl⟩)) | exact Or.inr (Or.inr (Or.inr (Or.inl ⟨by omega, by omega, by omega, by omega, rfl, rfl⟩))) | exact Or.inr (Or.inr (Or.inr (Or.inr ⟨by omega, by omega, rfl, rfl⟩))))
            · refine f_aload_n hZ dX6_copy_88 rfl ?_
              refine gX6_41 hZ dX6_copy_89 ?_
              refine f_iload_n hZ dX6_copy_92 rfl ?_
              refine f_iload hZ dX6_copy_93 rfl ?_
              refine f_iload hZ dX6_copy_95 rfl ?_
              refine vX6_222 hZ dX6_copy_97 (t_X3_reaches (by omega) (by omega) (by omega) hW) (fun a97 M97 r97 h97 => ?_)
              obtain ⟨e97, h97⟩ := h97
              replace e97 := e97.symm
              subst e97
              refine f_ne (tgt := 106) hZ dX6_copy_100 rfl (by omega) (fun h100 => ?_) (fun h100 => ?_)
              · have hq1 := hW s (by omega) (by omega)
                have hq2 := hW t (by omega) (by omega)
                refine f_aload_n hZ dX6_copy_106 rfl ?_
                refine gX6_41 hZ dX6_copy_107 ?_
                refine gX6_231 hZ dX6_copy_110 ?_
                refine f_iload_n hZ dX6_copy_113 rfl ?_
                refine f_aaload hZ dX6_copy_114 rfl rfl (by omega) (by omega) ?_
                refine f_iload_n hZ dX6_copy_115 rfl ?_
                refine f_aload_n hZ dX6_copy_116 rfl ?_
                refine gX6_41 hZ dX6_copy_117 ?_
                refine gX6_231 hZ dX6_copy_120 ?_
                refine f_iload_n hZ dX6_copy_123 rfl ?_
                refine f_aaload hZ dX6_copy_124 rfl rfl (by omega) (by omega) ?_
                refine f_iload hZ dX6_copy_125 rfl ?_
                refine f_iload hZ dX6_copy_127 rfl ?_
                refine f_copy hZ dX6_copy_129 wk_X6_235 (by first | rfl | exact rowT (by omega)) (by first | rfl | exact rowT (by omega)) (by first | rfl | exact rowL (by omega)) (by first | rfl | exact rowL (by omega)) (by omega) (by omega) (by omega) (by omega) (by omega) (Nat.le_of_ble_eq_true rfl) ?_
                refine f_iload hZ dX6_copy_132 rfl ?_
                exact f_retI hZ hR dX6_copy_134 rfl (by omega) (by first | exact Or.inl ⟨by omega, rfl, rfl⟩ | exact Or.inr (Or.inl ⟨by omega, by omega, rfl, rfl⟩) | exact Or.inr (Or.inr (Or.inl ⟨by omega, by omega, by omega, rfl, rfl⟩)) | exact Or.inr (Or.inr (Or.inr (Or.inl ⟨by omega, by omega, by omega, by omega, rfl, rfl⟩))) | exact Or.inr (Or.inr (Or.inr (Or.inr ⟨by omega, by omega, rfl, rfl⟩))))
              · refine f_bipush hZ dX6_copy_103 ?_
                exact f_retI hZ hR dX6_copy_105 rfl (by omega) (by first | exact Or.inl ⟨by omega, rfl, rfl⟩ | exact Or.inr (Or.inl ⟨by omega, by omega, rfl, rfl⟩) | exact Or.inr (Or.inr (Or.inl ⟨by omega, by omega, by omega, rfl, rfl⟩)) | exact Or.inr (Or.inr (Or.inr (Or.inl ⟨by omega, by omega, by omega, by omega, rfl, rfl⟩))) | exact Or.inr (Or.inr (Or.inr (Or.inr ⟨by omega, by omega, rfl, rfl⟩))))
          · refine f_bipush hZ dX6_copy_71 ?_
            exact f_retI hZ hR dX6_copy_73 rfl (by omega) (by first | exact Or.inl ⟨by omega, rfl, rfl⟩ | exact Or.inr (Or.inl ⟨by omega, by omega, rfl, rfl⟩) | exact Or.inr (Or.inr (Or.inl ⟨by omega, by omega, by omega, rfl, rfl⟩)) | exact Or.inr (Or.inr (Or.inr (Or.inl ⟨by omega, by omega, by omega, by omega, rfl, rfl⟩))) | exact Or.inr (Or.inr (Or.inr (Or.inr ⟨by omega, by omega, rfl, rfl⟩))))
        · refine f_bipush hZ dX6_copy_47 ?_
          exact f_retI hZ hR dX6_copy_49 rfl (by omega) (by first | exact Or.inl ⟨by omega, rfl, rfl⟩ | exact Or.inr (Or.inl ⟨by omega, by omega, rfl, rfl⟩) | exact Or.inr (Or.inr (Or.inl ⟨by omega, by omega, by omega, rfl, rfl⟩)) | exact Or.inr (Or.inr (Or.inr (Or.inl ⟨by omega, by omega, by omega, by omega, rfl, rfl⟩))) | exact Or.inr (Or.inr (Or.inr (Or.inr ⟨by omega, by omega, rfl, rfl⟩))))
    · refine f_bipush hZ dX6_copy_22 ?_
      exact f_retI hZ hR dX6_copy_24 rfl (by omega) (by first | exact Or.inl ⟨by omega, rfl, rfl⟩ | exact Or.inr (Or.inl ⟨by omega, by omega, rfl, rfl⟩) | exact Or.inr (Or.inr (Or.inl ⟨by omega, by omega, by omega, rfl, rfl⟩)) | exact Or.inr (Or.inr (Or.inr (Or.inl ⟨by omega, by omega, by omega, by omega, rfl, rfl⟩))) | exact Or.inr (Or.inr (Or.inr (Or.inr ⟨by omega, by omega, rfl, rfl⟩))))

