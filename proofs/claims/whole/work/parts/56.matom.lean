/-! the model's grammar -/
def AQ (B : Int → Int) (n t o : Int) (f : pT → pE) (e : pE) (M : fM) (r : Int) (K : fM) : Prop := mS B n t o (eb e f) K ∧ mF M K ∧ ∀ z, eb e f = .ok z → r = pv z (nmM M)
def MC (B : Int → Int) (n t : Int) (X : fX) (d : Nat) (y : fY) (o : Int) (f : pT → pE) : Prop := ∀ (M : fM) (e : pE), mS B n t o e M → WE n e → fC X d y [.ref (xa X 59)] M (QI fun r K => AQ B n t o f e M r K)
theorem adv_pv {B : Int → Int} {n : Int} {x y : pT} (h : adv B n x = .ok y) : pv y = pv x := by
  unfold adv at h
  split at h
  · cases h
  · cases h; rfl
theorem mS_adv {B : Int → Int} {n t o : Int} {x y : pT} {K : fM} (h : mS B n t o (adv B n x) K) (hx : pnx y = pnx x) : mS B n t o (adv B n y) K := by
  unfold adv at *
  rw [hx]
  by_cases hb : (lex B n (pnx x)).2.2.1 = 259
  · rw [if_pos hb] at *; exact h
  · rw [if_neg hb] at *; exact h
theorem bn1_val {B : Int → Int} {n : Int} {f : pT → pE} (hf : Gd n f) {c : Int} {x y : pT} (hx : WfX n x) (ht : ptk x ≠ 258) (h : bn1 B n f c x = .ok y) : ∃ z, eb (adv B n x) f = .ok z ∧ pat y = pat z ∧ pat x + 1 ≤ pat z ∧ ∀ nm, pv y nm = binZ c (pv x nm) (pv z nm) := by
  obtain ⟨z, h1, h2⟩ := eb_inv h
  have h3 := sub_room hf hx ht h1
  cases h2
  exact ⟨z, h1, rfl, h3.2.2.1, fun nm => rfl⟩
section At
variable {B : Int → Int} {n t o : Int} {q : Option ((pT → pE) × (pT → pE))} {e : pE} {M K N : fM} {r : Int} {x : pT}
theorem at_fail (hf : mS B n t o (eb e fun x => .error (pat x)) K ∧ mF M K) (hno : ∀ x, e = .ok x → oneF B n q x = .error (pat x)) : AQ B n t o (oneF B n q) e M r K := by
  obtain ⟨h1, h2⟩ := hf
  cases e with
  | error p => exact ⟨h1, h2, fun z hz => by cases hz⟩
  | ok x =>
    have hx := hno x rfl
    exact ⟨by show mS B n t o (oneF B n q x) K; rw [hx]; exact h1, h2, fun z hz => by have hz : oneF B n q x = .ok z := hz; rw [hx] at hz; cases hz⟩
theorem one_no {x : pT} (h : ptk x ≠ 256 ∧ ptk x ≠ 257 ∧ ptk x ≠ 45 ∧ ptk x ≠ 40) : oneF B n q x = .error (pat x) := by
  unfold oneF
  rw [if_neg (by omega)]
  cases q with
  | none => rfl
  | some p =>
    show (if ptk x = 45 then _ else if ptk x = 40 then _ else _) = _
    rw [if_neg h.2.2.1, if_neg h.2.2.2]
theorem at_nw {c : Int} (hx : ptk x = 256 ∨ ptk x = 257) (hK : mS B n t o (adv B n x) K) (hF : mF M K) (hr : r = if ptk x = 256 then pvl x else nmM M (pvl x)) : AQ B n t o (oneF B n q) (.ok x) M r K := by
  have h1 : eb (.ok x) (oneF B n q) = onN B n x := if_pos hx
  refine ⟨?_, hF, fun z hz => ?_⟩
  · rw [h1]; exact mS_adv hK rfl
  · rw [h1] at hz
    have := adv_pv hz
    rw [this, hr]; rfl
theorem at_minus {fo fe : pT → pE} (hx : ptk x = 45) (hK : AQ B n t (o + 1) fo (adv B n x) N r K) (hF : mF M N) (hN : nmM N = nmM M) (ho : 0 ≤ o ∧ o ≤ 5) : AQ B n t o (oneF B n (some (fo, fe))) (.ok x) M (wI (-r)) (up K 59 27 o) := by
  obtain ⟨k1, k2, k3⟩ := hK
  have h1 : eb (.ok x) (oneF B n (some (fo, fe))) = un1 B n fo (-9) (fun a => wI (-a)) x := by
    show oneF B n (some (fo, fe)) x = _
    unfold oneF
    rw [if_neg (by omega)]
    exact if_pos hx
  have hop := (mS.emt (c := -9) (w := fun z nm => wI (-(pv z nm))) k1).opn ho
  refine ⟨?_, (hF.trans k2).trans hop.2, fun z hz => ?_⟩
  · rw [h1]; exact hop.1
  · rw [h1] at hz
    obtain ⟨y, g1, g2⟩ := eb_inv hz
    cases g2
    rw [k3 y g1, hN]; rfl
theorem at_par {fo fe : pT → pE} {y : pT} (hx : ptk x = 40) (he : eb (adv B n x) fe = .ok y) (hy : ptk y = 41) (hK : mS B n t o (adv B n y) K) (hF : mF M K) (hr : r = pv y (nmM M)) : AQ B n t o (oneF B n (some (fo, fe))) (.ok x) M r K := by
  have h1 : eb (.ok x) (oneF B n (some (fo, fe))) = adv B n y := by
    show oneF B n (some (fo, fe)) x = _
    unfold oneF
    rw [if_neg (by omega)]
    show (if ptk x = 45 then _ else if ptk x = 40 then _ else _) = _
    rw [if_neg (by omega), if_pos hx, he]
    exact if_pos hy
  refine ⟨by rw [h1]; exact hK, hF, fun z hz => ?_⟩
  rw [h1] at hz
  rw [adv_pv hz]; exact hr
theorem at_parx {fo fe : pT → pE} (hx : ptk x = 40) (hno : ¬ ∃ y, eb (adv B n x) fe = .ok y ∧ ptk y = 41) (hK : mS B n t o (eb (eb (adv B n x) fe) fun x => .error (pat x)) K) (hF : mF M K) : AQ B n t o (oneF B n (some (fo, fe))) (.ok x) M r K := by
  have h1 : eb (.ok x) (oneF B n (some (fo, fe))) = eb (eb (adv B n x) fe) fun x => .error (pat x) := by
    show oneF B n (some (fo, fe)) x = _
    unfold oneF
    rw [if_neg (by omega)]
    show (if ptk x = 45 then _ else if ptk x = 40 then _ else _) = _
    rw [if_neg (by omega), if_pos hx]
    cases hE : eb (adv B n x) fe with
    | error p => rfl
    | ok y => exact if_neg (fun z => hno ⟨y, hE, z⟩)
  refine ⟨by rw [h1]; exact hK, hF, fun z hz => ?_⟩
  rw [h1] at hz
  obtain ⟨y, _, g⟩ := eb_inv hz
  cases g
end At
set_option maxRecDepth 20000 in
set_option maxHeartbeats 4000000 in
theorem t_X7_atom_0 {X : fX} {B : Int → Int} {n t : Int} {d : Nat} {o : Int} (ho : o = 5)  : MC B n t X (d + 10) mX7_atom o (oneF B n none) := by
  intro M e hS hW
  refine fC.of (L := [_, _]) (by decide +kernel) rfl (Nat.le_of_ble_eq_true rfl) (fun Z hZ hR => ?_)
  refine f_iconst hZ dX7_atom_0 ?_
  refine f_istore_n (L' := [_, _]) hZ dX7_atom_1 rfl rfl ?_
  refine f_aload_n hZ dX7_atom_2 rfl ?_
  refine f_bipush hZ dX7_atom_3 ?_
  refine vX7_229 hZ dX7_atom_5 (t_X7_isSign (by omega) hS) (fun a5 M5 r5 h5 => ?_)
  obtain ⟨e5, h5⟩ := h5
  replace e5 := e5.symm
  subst e5
  refine f_eq (tgt := 37) hZ dX7_atom_8 rfl (by first | omega | exact rg_of _) (fun h8 => ?_) (fun h8 => ?_)
  · refine f_aload_n hZ dX7_atom_37 rfl ?_
    refine f_bipush hZ dX7_atom_38 ?_
    refine vX7_229 hZ dX7_atom_40 (t_X7_isSign (by omega) hS) (fun a40 M40 r40 h40 => ?_)
    obtain ⟨e40, h40⟩ := h40
    replace e40 := e40.symm
    subst e40
    refine f_eq (tgt := 95) hZ dX7_atom_43 rfl (by first | omega | exact rg_of _) (fun h43 => ?_) (fun h43 => ?_)
    · refine f_aload_n hZ dX7_atom_95 rfl ?_
      refine gX7_187 hZ dX7_atom_96 (fun r96 => ?_)
      refine f_ne (tgt := 123) hZ dX7_atom_99 rfl (by first | omega | exact rg_of _) (fun h99 => ?_) (fun h99 => ?_)
      · refine f_aload_n hZ dX7_atom_123 rfl ?_
        refine gX7_187 hZ dX7_atom_124 (fun r124 => ?_)
        refine f_ne (tgt := 157) hZ dX7_atom_127 rfl (by first | omega | exact rg_of _) (fun h127 => ?_) (fun h127 => ?_)
        · refine f_aload_n hZ dX7_atom_157 rfl ?_
          refine vX7_201 hZ dX7_atom_158 (c_mfail hS) (fun M158 h158 => ?_)
          refine f_iload_n hZ dX7_atom_161 rfl ?_
          exact f_retI hZ hR dX7_atom_162 rfl (by first | omega | exact rg_of _) (by first | (exfalso; omega) | exact at_nw (c := 0) (Or.inl hx1) h117.1 h117.2 (by rw [if_pos hx1]; exact hx2) | exact at_nw (c := 0) (Or.inr hx1) h151.1 (h139.2.1.trans h151.2) (by rw [if_neg (by omega)]; exact h139.2.2.1 x rfl hx1) | (refine ⟨?_, h12f, fun z hz => ?_⟩; show mS B n t o (oneF B n none x) _; rw [show oneF B n none x = .error (pat x) from if_neg (by omega)]; exact h12.2.2.1; have hz : oneF B n none x = .ok z := hz; rw [show oneF B n none x = .error (pat x) from if_neg (by omega)] at hz; cases hz) | (refine ⟨?_, h47f, fun z hz => ?_⟩; show mS B n t o (oneF B n none x) _; rw [show oneF B n none x = .error (pat x) from if_neg (by omega)]; exact h47.2.2.1; have hz : oneF B n none x = .ok z := hz; rw [show oneF B n none x = .error (pat x) from if_neg (by omega)] at hz; cases hz) | (have hn0 : ¬ ∃ x, e = .ok x ∧ ptk x = 257 := fun z => absurd (h139.2.2.2.2 z) (by omega); refine at_fail ⟨?_, h139.2.1⟩ (fun x hx => one_no ?_); have hh := h139.1; (cases e with | error p => exact hh | ok y => exact (show mS B n t o (.error (pat y)) _ by have h2 : eb (.ok y) (fun x => if ptk x = 257 then Except.ok x else .error (pat x)) = .error (pat y) := if_neg (fun z => hn0 ⟨y, rfl, z⟩); rw [h2] at hh; exact hh)); have n5 := bz_f h5 (by omega); have n40 := bz_f h40 (by omega); have g5 : ptk x ≠ 45 := fun z => n5 ⟨x, hx, z⟩; have g40 : ptk x ≠ 40 := fun z => n40 ⟨x, hx, z⟩; have g7 : ptk x ≠ 257 := fun z => hn0 ⟨x, hx, z⟩; subst hx; have t1 := hS.tok.1; exact ⟨fun z => by have := t1 z; omega, g7, g5, g40⟩) | (refine at_fail ⟨h158.1, h158.2.1⟩ (fun x hx => one_no ?_); have n5 := bz_f h5 (by omega); have n40 := bz_f h40 (by omega); have g5 : ptk x ≠ 45 := fun z => n5 ⟨x, hx, z⟩; have g40 : ptk x ≠ 40 := fun z => n40 ⟨x, hx, z⟩; subst hx; have tk := hS.tok; have t1 := tk.1; have t2 := tk.2.1; have t4 := tk.2.2.2; clear tk; refine ⟨fun z => ?_, fun z => ?_, g5, g40⟩; have := t1 z; omega; have := t2 (by omega) (by omega); omega))
        · refine f_aload_n hZ dX7_atom_130 rfl ?_
          refine gX7_170 hZ dX7_atom_131 (fun r131 => ?_)
          refine f_iconst hZ dX7_atom_134 ?_
          refine f_ine (tgt := 157) hZ dX7_atom_135 rfl (by first | omega | exact rg_of _) (by first | omega | exact rg_of _) (fun h135 => ?_) (fun h135 => ?_)
          · refine f_aload_n hZ dX7_atom_157 rfl ?_
            refine vX7_201 hZ dX7_atom_158 (c_mfail hS) (fun M158 h158 => ?_)
            refine f_iload_n hZ dX7_atom_161 rfl ?_
            exact f_retI hZ hR dX7_atom_162 rfl (by first | omega | exact rg_of _) (by first | (exfalso; omega) | exact at_nw (c := 0) (Or.inl hx1) h117.1 h117.2 (by rw [if_pos hx1]; exact hx2) | exact at_nw (c := 0) (Or.inr hx1) h151.1 (h139.2.1.trans h151.2) (by rw [if_neg (by omega)]; exact h139.2.2.1 x rfl hx1) | (refine ⟨?_, h12f, fun z hz => ?_⟩; show mS B n t o (oneF B n none x) _; rw [show oneF B n none x = .error (pat x) from if_neg (by omega)]; exact h12.2.2.1; have hz : oneF B n none x = .ok z := hz; rw [show oneF B n none x = .error (pat x) from if_neg (by omega)] at hz; cases hz) | (refine ⟨?_, h47f, fun z hz => ?_⟩; show mS B n t o (oneF B n none x) _; rw [show oneF B n none x = .error (pat x) from if_neg (by omega)]; exact h47.2.2.1; have hz : oneF B n none x = .ok z := hz; rw [show oneF B n none x = .error (pat x) from if_neg (by omega)] at hz; cases hz) | (have hn0 : ¬ ∃ x, e = .ok x ∧ ptk x = 257 := fun z => absurd (h139.2.2.2.2 z) (by omega); refine at_fail ⟨?_, h139.2.1⟩ (fun x hx => one_no ?_); have hh := h139.1; (cases e with | error p => exact hh | ok y => exact (show mS B n t o (.error (pat y)) _ by have h2 : eb (.ok y) (fun x => if ptk x = 257 then Except.ok x else .error (pat x)) = .error (pat y) := if_neg (fun z => hn0 ⟨y, rfl, z⟩); rw [h2] at hh; exact hh)); have n5 := bz_f h5 (by omega); have n40 := bz_f h40 (by omega); have g5 : ptk x ≠ 45 := fun z => n5 ⟨x, hx, z⟩; have g40 : ptk x ≠ 40 := fun z => n40 ⟨x, hx, z⟩; have g7 : ptk x ≠ 257 := fun z => hn0 ⟨x, hx, z⟩; subst hx; have t1 := hS.tok.1; exact ⟨fun z => by have := t1 z; omega, g7, g5, g40⟩) | (refine at_fail ⟨h158.1, h158.2.1⟩ (fun x hx => one_no ?_); have n5 := bz_f h5 (by omega); have n40 := bz_f h40 (by omega); have g5 : ptk x ≠ 45 := fun z => n5 ⟨x, hx, z⟩; have g40 : ptk x ≠ 40 := fun z => n40 ⟨x, hx, z⟩; subst hx; have tk := hS.tok; have t1 := tk.1; have t2 := tk.2.1; have t4 := tk.2.2.2; clear tk; refine ⟨fun z => ?_, fun z => ?_, g5, g40⟩; have := t1 z; omega; have := t2 (by omega) (by omega); omega))
          · refine f_aload_n hZ dX7_atom_138 rfl ?_
            refine vX7_243 hZ dX7_atom_139 (t_X7_name hS) (fun a139 M139 r139 h139 => ?_)
            refine f_istore_n (L' := [_, _]) hZ dX7_atom_142 rfl rfl ?_
            refine f_aload_n hZ dX7_atom_143 rfl ?_
            refine gX7_187 hZ dX7_atom_144 (fun r144 => ?_)
            refine f_ne (tgt := 161) hZ dX7_atom_147 rfl (by first | omega | exact rg_of _) (fun h147 => ?_) (fun h147 => ?_)
            · refine f_iload_n hZ dX7_atom_161 rfl ?_
              exact f_retI hZ hR dX7_atom_162 rfl (by first | omega | exact rg_of _) (by first | (exfalso; omega) | exact at_nw (c := 0) (Or.inl hx1) h117.1 h117.2 (by rw [if_pos hx1]; exact hx2) | exact at_nw (c := 0) (Or.inr hx1) h151.1 (h139.2.1.trans h151.2) (by rw [if_neg (by omega)]; exact h139.2.2.1 x rfl hx1) | (refine ⟨?_, h12f, fun z hz => ?_⟩; show mS B n t o (oneF B n none x) _; rw [show oneF B n none x = .error (pat x) from if_neg (by omega)]; exact h12.2.2.1; have hz : oneF B n none x = .ok z := hz; rw [show oneF B n none x = .error (pat x) from if_neg (by omega)] at hz; cases hz) | (refine ⟨?_, h47f, fun z hz => ?_⟩; show mS B n t o (oneF B n none x) _; rw [show oneF B n none x = .error (pat x) from if_neg (by omega)]; exact h47.2.2.1; have hz : oneF B n none x = .ok z := hz; rw [show oneF B n none x = .error (pat x) from if_neg (by omega)] at hz; cases hz) | (have hn0 : ¬ ∃ x, e = .ok x ∧ ptk x = 257 := fun z => absurd (h139.2.2.2.2 z) (by omega); refine at_fail ⟨?_, h139.2.1⟩ (fun x hx => one_no ?_); have hh := h139.1; (cases e with | error p => exact hh | ok y => exact (show mS B n t o (.error (pat y)) _ by have h2 : eb (.ok y) (fun x => if ptk x = 257 then Except.ok x else .error (pat x)) = .error (pat y) := if_neg (fun z => hn0 ⟨y, rfl, z⟩); rw [h2] at hh; exact hh)); have n5 := bz_f h5 (by omega); have n40 := bz_f h40 (by omega); have g5 : ptk x ≠ 45 := fun z => n5 ⟨x, hx, z⟩; have g40 : ptk x ≠ 40 := fun z => n40 ⟨x, hx, z⟩; have g7 : ptk x ≠ 257 := fun z => hn0 ⟨x, hx, z⟩; subst hx; have t1 := hS.tok.1; exact ⟨fun z => by have := t1 z; omega, g7, g5, g40⟩) | (refine at_fail ⟨h158.1, h158.2.1⟩ (fun x hx => one_no ?_); have n5 := bz_f h5 (by omega); have n40 := bz_f h40 (by omega); have g5 : ptk x ≠ 45 := fun z => n5 ⟨x, hx, z⟩; have g40 : ptk x ≠ 40 := fun z => n40 ⟨x, hx, z⟩; subst hx; have tk := hS.tok; have t1 := tk.1; have t2 := tk.2.1; have t4 := tk.2.2.2; clear tk; refine ⟨fun z => ?_, fun z => ?_, g5, g40⟩; have := t1 z; omega; have := t2 (by omega) (by omega); omega))
            · obtain ⟨x, rfl, hx1⟩ := h139.2.2.2.1 (by omega)
              have hS3 := h139.1
              rw [show eb (.ok x) (fun x => if ptk x = 257 then Except.ok x else .error (pat x)) = .ok x from if_pos hx1] at hS3
              refine f_aload_n hZ dX7_atom_150 rfl ?_
              refine vX7_204 hZ dX7_atom_151 (c_next hS3 (by omega)) (fun M151 h151 => ?_)
              refine f_goto (tgt := 161) hZ dX7_atom_154 rfl ?_
              refine f_iload_n hZ dX7_atom_161 rfl ?_
              exact f_retI hZ hR dX7_atom_162 rfl (by first | omega | exact rg_of _) (by first | (exfalso; omega) | exact at_nw (c := 0) (Or.inl hx1) h117.1 h117.2 (by rw [if_pos hx1]; exact hx2) | exact at_nw (c := 0) (Or.inr hx1) h151.1 (h139.2.1.trans h151.2) (by rw [if_neg (by omega)]; exact h139.2.2.1 x rfl hx1) | (refine ⟨?_, h12f, fun z hz => ?_⟩; show mS B n t o (oneF B n none x) _; rw [show oneF B n none x = .error (pat x) from if_neg (by omega)]; exact h12.2.2.1; have hz : oneF B n none x = .ok z := hz; rw [show oneF B n none x = .error (pat x) from if_neg (by omega)] at hz; cases hz) | (refine ⟨?_, h47f, fun z hz => ?_⟩; show mS B n t o (oneF B n none x) _; rw [show oneF B n none x = .error (pat x) from if_neg (by omega)]; exact h47.2.2.1; have hz : oneF B n none x = .ok z := hz; rw [show oneF B n none x = .error (pat x) from if_neg (by omega)] at hz; cases hz) | (have hn0 : ¬ ∃ x, e = .ok x ∧ ptk x = 257 := fun z => absurd (h139.2.2.2.2 z) (by omega); refine at_fail ⟨?_, h139.2.1⟩ (fun x hx => one_no ?_); have hh := h139.1; (cases e with | error p => exact hh | ok y => exact (show mS B n t o (.error (pat y)) _ by have h2 : eb (.ok y) (fun x => if ptk x = 257 then Except.ok x else .error (pat x)) = .error (pat y) := if_neg (fun z => hn0 ⟨y, rfl, z⟩); rw [h2] at hh; exact hh)); have n5 := bz_f h5 (by omega); have n40 := bz_f h40 (by omega); have g5 : ptk x ≠ 45 := fun z => n5 ⟨x, hx, z⟩; have g40 : ptk x ≠ 40 := fun z => n40 ⟨x, hx, z⟩; have g7 : ptk x ≠ 257 := fun z => hn0 ⟨x, hx, z⟩; subst hx; have t1 := hS.tok.1; exact ⟨fun z => by have := t1 z; omega, g7, g5, g40⟩) | (refine at_fail ⟨h158.1, h158.2.1⟩ (fun x hx => one_no ?_); have n5 := bz_f h5 (by omega); have n40 := bz_f h40 (by omega); have g5 : ptk x ≠ 45 := fun z => n5 ⟨x, hx, z⟩; have g40 : ptk x ≠ 40 := fun z => n40 ⟨x, hx, z⟩; subst hx; have tk := hS.tok; have t1 := tk.1; have t2 := tk.2.1; have t4 := tk.2.2.2; clear tk; refine ⟨fun z => ?_, fun z => ?_, g5, g40⟩; have := t1 z; omega; have := t2 (by omega) (by omega); omega))
      · refine f_aload_n hZ dX7_atom_102 rfl ?_
        refine gX7_170 hZ dX7_atom_103 (fun r103 => ?_)
        refine f_iconst hZ dX7_atom_106 ?_
        refine f_ine (tgt := 123) hZ dX7_atom_107 rfl (by first | omega | exact rg_of _) (by first | omega | exact rg_of _) (fun h107 => ?_) (fun h107 => ?_)
        · refine f_aload_n hZ dX7_atom_123 rfl ?_
          refine gX7_187 hZ dX7_atom_124 (fun r124 => ?_)
          refine f_ne (tgt := 157) hZ dX7_atom_127 rfl (by first | omega | exact rg_of _) (fun h127 => ?_) (fun h127 => ?_)
          · refine f_aload_n hZ dX7_atom_157 rfl ?_
            refine vX7_201 hZ dX7_atom_158 (c_mfail hS) (fun M158 h158 => ?_)
            refine f_iload_n hZ dX7_atom_161 rfl ?_
            exact f_retI hZ hR dX7_atom_162 rfl (by first | omega | exact rg_of _) (by first | (exfalso; omega) | exact at_nw (c := 0) (Or.inl hx1) h117.1 h117.2 (by rw [if_pos hx1]; exact hx2) | exact at_nw (c := 0) (Or.inr hx1) h151.1 (h139.2.1.trans h151.2) (by rw [if_neg (by omega)]; exact h139.2.2.1 x rfl hx1) | (refine ⟨?_, h12f, fun z hz => ?_⟩; show mS B n t o (oneF B n none x) _; rw [show oneF B n none x = .error (pat x) from if_neg (by omega)]; exact h12.2.2.1; have hz : oneF B n none x = .ok z := hz; rw [show oneF B n none x = .error (pat x) from if_neg (by omega)] at hz; cases hz) | (refine ⟨?_, h47f, fun z hz => ?_⟩; show mS B n t o (oneF B n none x) _; rw [show oneF B n none x = .error (pat x) from if_neg (by omega)]; exact h47.2.2.1; have hz : oneF B n none x = .ok z := hz; rw [show oneF B n none x = .error (pat x) from if_neg (by omega)] at hz; cases hz) | (have hn0 : ¬ ∃ x, e = .ok x ∧ ptk x = 257 := fun z => absurd (h139.2.2.2.2 z) (by omega); refine at_fail ⟨?_, h139.2.1⟩ (fun x hx => one_no ?_); have hh := h139.1; (cases e with | error p => exact hh | ok y => exact (show mS B n t o (.error (pat y)) _ by have h2 : eb (.ok y) (fun x => if ptk x = 257 then Except.ok x else .error (pat x)) = .error (pat y) := if_neg (fun z => hn0 ⟨y, rfl, z⟩); rw [h2] at hh; exact hh)); have n5 := bz_f h5 (by omega); have n40 := bz_f h40 (by omega); have g5 : ptk x ≠ 45 := fun z => n5 ⟨x, hx, z⟩; have g40 : ptk x ≠ 40 := fun z => n40 ⟨x, hx, z⟩; have g7 : ptk x ≠ 257 := fun z => hn0 ⟨x, hx, z⟩; subst hx; have t1 := hS.tok.1; exact ⟨fun z => by have := t1 z; omega, g7, g5, g40⟩) | (refine at_fail ⟨h158.1, h158.2.1⟩ (fun x hx => one_no ?_); have n5 := bz_f h5 (by omega); have n40 := bz_f h40 (by omega); have g5 : ptk x ≠ 45 := fun z => n5 ⟨x, hx, z⟩; have g40 : ptk x ≠ 40 := fun z => n40 ⟨x, hx, z⟩; subst hx; have tk := hS.tok; have t1 := tk.1; have t2 := tk.2.1; have t4 := tk.2.2.2; clear tk; refine ⟨fun z => ?_, fun z => ?_, g5, g40⟩; have := t1 z; omega; have := t2 (by omega) (by omega); omega))
          · refine f_aload_n hZ dX7_atom_130 rfl ?_
            refine gX7_170 hZ dX7_atom_131 (fun r131 => ?_)
            refine f_iconst hZ dX7_atom_134 ?_
            refine f_ine (tgt := 157) hZ dX7_atom_135 rfl (by first | omega | exact rg_of _) (by first | omega | exact rg_of _) (fun h135 => ?_) (fun h135 => ?_)
            · refine f_aload_n hZ dX7_atom_157 rfl ?_
              refine vX7_201 hZ dX7_atom_158 (c_mfail hS) (fun M158 h158 => ?_)
              refine f_iload_n hZ dX7_atom_161 rfl ?_
              exact f_retI hZ hR dX7_atom_162 rfl (by first | omega | exact rg_of _) (by first | (exfalso; omega) | exact at_nw (c := 0) (Or.inl hx1) h117.1 h117.2 (by rw [if_pos hx1]; exact hx2) | exact at_nw (c := 0) (Or.inr hx1) h151.1 (h139.2.1.trans h151.2) (by rw [if_neg (by omega)]; exact h139.2.2.1 x rfl hx1) | (refine ⟨?_, h12f, fun z hz => ?_⟩; show mS B n t o (oneF B n none x) _; rw [show oneF B n none x = .error (pat x) from if_neg (by omega)]; exact h12.2.2.1; have hz : oneF B n none x = .ok z := hz; rw [show oneF B n none x = .error (pat x) from if_neg (by omega)] at hz; cases hz) | (refine ⟨?_, h47f, fun z hz => ?_⟩; show mS B n t o (oneF B n none x) _; rw [show oneF B n none x = .error (pat x) from if_neg (by omega)]; exact h47.2.2.1; have hz : oneF B n none x = .ok z := hz; rw [show oneF B n none x = .error (pat x) from if_neg (by omega)] at hz; cases hz) | (have hn0 : ¬ ∃ x, e = .ok x ∧ ptk x = 257 := fun z => absurd (h139.2.2.2.2 z) (by omega); refine at_fail ⟨?_, h139.2.1⟩ (fun x hx => one_no ?_); have hh := h139.1; (cases e with | error p => exact hh | ok y => exact (show mS B n t o (.error (pat y)) _ by have h2 : eb (.ok y) (fun x => if ptk x = 257 then Except.ok x else .error (pat x)) = .error (pat y) := if_neg (fun z => hn0 ⟨y, rfl, z⟩); rw [h2] at hh; exact hh)); have n5 := bz_f h5 (by omega); have n40 := bz_f h40 (by omega); have g5 : ptk x ≠ 45 := fun z => n5 ⟨x, hx, z⟩; have g40 : ptk x ≠ 40 := fun z => n40 ⟨x, hx, z⟩; have g7 : ptk x ≠ 257 := fun z => hn0 ⟨x, hx, z⟩; subst hx; have t1 := hS.tok.1; exact ⟨fun z => by have := t1 z; omega, g7, g5, g40⟩) | (refine at_fail ⟨h158.1, h158.2.1⟩ (fun x hx => one_no ?_); have n5 := bz_f h5 (by omega); have n40 := bz_f h40 (by omega); have g5 : ptk x ≠ 45 := fun z => n5 ⟨x, hx, z⟩; have g40 : ptk x ≠ 40 := fun z => n40 ⟨x, hx, z⟩; subst hx; have tk := hS.tok; have t1 := tk.1; have t2 := tk.2.1; have t4 := tk.2.2.2; clear tk; refine ⟨fun z => ?_, fun z => ?_, g5, g40⟩; have := t1 z; omega; have := t2 (by omega) (by omega); omega))
            · refine f_aload_n hZ dX7_atom_138 rfl ?_
              refine vX7_243 hZ dX7_atom_139 (t_X7_name hS) (fun a139 M139 r139 h139 => ?_)
              refine f_istore_n (L' := [_, _]) hZ dX7_atom_142 rfl rfl ?_
              refine f_aload_n hZ dX7_atom_143 rfl ?_
              refine gX7_187 hZ dX7_atom_144 (fun r144 => ?_)
              refine f_ne (tgt := 161) hZ dX7_atom_147 rfl (by first | omega | exact rg_of _) (fun h147 => ?_) (fun h147 => ?_)
              · refine f_iload_n hZ dX7_atom_161 rfl ?_
                exact f_retI hZ hR dX7_atom_162 rfl (by first | omega | exact rg_of _) (by first | (exfalso; omega) | exact at_nw (c := 0) (Or.inl hx1) h117.1 h117.2 (by rw [if_pos hx1]; exact hx2) | exact at_nw (c := 0) (Or.inr hx1) h151.1 (h139.2.1.trans h151.2) (by rw [if_neg (by omega)]; exact h139.2.2.1 x rfl hx1) | (refine ⟨?_, h12f, fun z hz => ?_⟩; show mS B n t o (oneF B n none x) _; rw [show oneF B n none x = .error (pat x) from if_neg (by omega)]; exact h12.2.2.1; have hz : oneF B n none x = .ok z := hz; rw [show oneF B n none x = .error (pat x) from if_neg (by omega)] at hz; cases hz) | (refine ⟨?_, h47f, fun z hz => ?_⟩; show mS B n t o (oneF B n none x) _; rw [show oneF B n none x = .error (pat x) from if_neg (by omega)]; exact h47.2.2.1; have hz : oneF B n none x = .ok z := hz; rw [show oneF B n none x = .error (pat x) from if_neg (by omega)] at hz; cases hz) | (have hn0 : ¬ ∃ x, e = .ok x ∧ ptk x = 257 := fun z => absurd (h139.2.2.2.2 z) (by omega); refine at_fail ⟨?_, h139.2.1⟩ (fun x hx => one_no ?_); have hh := h139.1; (cases e with | error p => exact hh | ok y => exact (show mS B n t o (.error (pat y)) _ by have h2 : eb (.ok y) (fun x => if ptk x = 257 then Except.ok x else .error (pat x)) = .error (pat y) := if_neg (fun z => hn0 ⟨y, rfl, z⟩); rw [h2] at hh; exact hh)); have n5 := bz_f h5 (by omega); have n40 := bz_f h40 (by omega); have g5 : ptk x ≠ 45 := fun z => n5 ⟨x, hx, z⟩; have g40 : ptk x ≠ 40 := fun z => n40 ⟨x, hx, z⟩; have g7 : ptk x ≠ 257 := fun z => hn0 ⟨x, hx, z⟩; subst hx; have t1 := hS.tok.1; exact ⟨fun z => by have := t1 z; omega, g7, g5, g40⟩) | (refine at_fail ⟨h158.1, h158.2.1⟩ (fun x hx => one_no ?_); have n5 := bz_f h5 (by omega); have n40 := bz_f h40 (by omega); have g5 : ptk x ≠ 45 := fun z => n5 ⟨x, hx, z⟩; have g40 : ptk x ≠ 40 := fun z => n40 ⟨x, hx, z⟩; subst hx; have tk := hS.tok; have t1 := tk.1; have t2 := tk.2.1; have t4 := tk.2.2.2; clear tk; refine ⟨fun z => ?_, fun z => ?_, g5, g40⟩; have := t1 z; omega; have := t2 (by omega) (by omega); omega))
              · obtain ⟨x, rfl, hx1⟩ := h139.2.2.2.1 (by omega)
                have hS3 := h139.1
                rw [show eb (.ok x) (fun x => if ptk x = 257 then Except.ok x else .error (pat x)) = .ok x from if_pos hx1] at hS3
                refine f_aload_n hZ dX7_atom_150 rfl ?_
                refine vX7_204 hZ dX7_atom_151 (c_next hS3 (by omega)) (fun M151 h151 => ?_)
                refine f_goto (tgt := 161) hZ dX7_atom_154 rfl ?_
                refine f_iload_n hZ dX7_atom_161 rfl ?_
                exact f_retI hZ hR dX7_atom_162 rfl (by first | omega | exact rg_of _) (by first | (exfalso; omega) | exact at_nw (c := 0) (Or.inl hx1) h117.1 h117.2 (by rw [if_pos hx1]; exact hx2) | exact at_nw (c := 0) (Or.inr hx1) h151.1 (h139.2.1.trans h151.2) (by rw [if_neg (by omega)]; exact h139.2.2.1 x rfl hx1) | (refine ⟨?_, h12f, fun z hz => ?_⟩; show mS B n t o (oneF B n none x) _; rw [show oneF B n none x = .error (pat x) from if_neg (by omega)]; exact h12.2.2.1; have hz : oneF B n none x = .ok z := hz; rw [show oneF B n none x = .error (pat x) from if_neg (by omega)] at hz; cases hz) | (refine ⟨?_, h47f, fun z hz => ?_⟩; show mS B n t o (oneF B n none x) _; rw [show oneF B n none x = .error (pat x) from if_neg (by omega)]; exact h47.2.2.1; have hz : oneF B n none x = .ok z := hz; rw [show oneF B n none x = .error (pat x) from if_neg (by omega)] at hz; cases hz) | (have hn0 : ¬ ∃ x, e = .ok x ∧ ptk x = 257 := fun z => absurd (h139.2.2.2.2 z) (by omega); refine at_fail ⟨?_, h139.2.1⟩ (fun x hx => one_no ?_); have hh := h139.1; (cases e with | error p => exact hh | ok y => exact (show mS B n t o (.error (pat y)) _ by have h2 : eb (.ok y) (fun x => if ptk x = 257 then Except.ok x else .error (pat x)) = .error (pat y) := if_neg (fun z => hn0 ⟨y, rfl, z⟩); rw [h2] at hh; exact hh)); have n5 := bz_f h5 (by omega); have n40 := bz_f h40 (by omega); have g5 : ptk x ≠ 45 := fun z => n5 ⟨x, hx, z⟩; have g40 : ptk x ≠ 40 := fun z => n40 ⟨x, hx, z⟩; have g7 : ptk x ≠ 257 := fun z => hn0 ⟨x, hx, z⟩; subst hx; have t1 := hS.tok.1; exact ⟨fun z => by have := t1 z; omega, g7, g5, g40⟩) | (refine at_fail ⟨h158.1, h158.2.1⟩ (fun x hx => one_no ?_); have n5 := bz_f h5 (by omega); have n40 := bz_f h40 (by omega); have g5 : ptk x ≠ 45 := fun z => n5 ⟨x, hx, z⟩; have g40 : ptk x ≠ 40 := fun z => n40 ⟨x, hx, z⟩; subst hx; have tk := hS.tok; have t1 := tk.1; have t2 := tk.2.1; have t4 := tk.2.2.2; clear tk; refine ⟨fun z => ?_, fun z => ?_, g5, g40⟩; have := t1 z; omega; have := t2 (by omega) (by omega); omega))
        · obtain ⟨x, rfl, hx1, hx2⟩ := hS.num (by omega) (by omega)
          have hWx := hW x rfl
          have hv4 := hWx.2.2.2.1 hx1
          refine f_aload_n hZ dX7_atom_110 rfl ?_
          refine gX7_181 hZ dX7_atom_111 (fun r111 => ?_)
          refine f_l2i hZ dX7_atom_114 ?_
          refine f_istore_n (L' := [_, _]) hZ dX7_atom_115 rfl rfl ?_
          refine f_aload_n hZ dX7_atom_116 rfl ?_
          refine vX7_204 hZ dX7_atom_117 (c_next hS (by omega)) (fun M117 h117 => ?_)
          refine f_goto (tgt := 161) hZ dX7_atom_120 rfl ?_
          refine f_iload_n hZ dX7_atom_161 rfl ?_
          exact f_retI hZ hR dX7_atom_162 rfl (by first | omega | exact rg_of _) (by first | (exfalso; omega) | exact at_nw (c := 0) (Or.inl hx1) h117.1 h117.2 (by rw [if_pos hx1]; exact hx2) | exact at_nw (c := 0) (Or.inr hx1) h151.1 (h139.2.1.trans h151.2) (by rw [if_neg (by omega)]; exact h139.2.2.1 x rfl hx1) | (refine ⟨?_, h12f, fun z hz => ?_⟩; show mS B n t o (oneF B n none x) _; rw [show oneF B n none x = .error (pat x) from if_neg (by omega)]; exact h12.2.2.1; have hz : oneF B n none x = .ok z := hz; rw [show oneF B n none x = .error (pat x) from if_neg (by omega)] at hz; cases hz) | (refine ⟨?_, h47f, fun z hz => ?_⟩; show mS B n t o (oneF B n none x) _; rw [show oneF B n none x = .error (pat x) from if_neg (by omega)]; exact h47.2.2.1; have hz : oneF B n none x = .ok z := hz; rw [show oneF B n none x = .error (pat x) from if_neg (by omega)] at hz; cases hz) | (have hn0 : ¬ ∃ x, e = .ok x ∧ ptk x = 257 := fun z => absurd (h139.2.2.2.2 z) (by omega); refine at_fail ⟨?_, h139.2.1⟩ (fun x hx => one_no ?_); have hh := h139.1; (cases e with | error p => exact hh | ok y => exact (show mS B n t o (.error (pat y)) _ by have h2 : eb (.ok y) (fun x => if ptk x = 257 then Except.ok x else .error (pat x)) = .error (pat y) := if_neg (fun z => hn0 ⟨y, rfl, z⟩); rw [h2] at hh; exact hh)); have n5 := bz_f h5 (by omega); have n40 := bz_f h40 (by omega); have g5 : ptk x ≠ 45 := fun z => n5 ⟨x, hx, z⟩; have g40 : ptk x ≠ 40 := fun z => n40 ⟨x, hx, z⟩; have g7 : ptk x ≠ 257 := fun z => hn0 ⟨x, hx, z⟩; subst hx; have t1 := hS.tok.1; exact ⟨fun z => by have := t1 z; omega, g7, g5, g40⟩) | (refine at_fail ⟨h158.1, h158.2.1⟩ (fun x hx => one_no ?_); have n5 := bz_f h5 (by omega); have n40 := bz_f h40 (by omega); have g5 : ptk x ≠ 45 := fun z => n5 ⟨x, hx, z⟩; have g40 : ptk x ≠ 40 := fun z => n40 ⟨x, hx, z⟩; subst hx; have tk := hS.tok; have t1 := tk.1; have t2 := tk.2.1; have t4 := tk.2.2.2; clear tk; refine ⟨fun z => ?_, fun z => ?_, g5, g40⟩; have := t1 z; omega; have := t2 (by omega) (by omega); omega))
    · obtain ⟨x, rfl, hx1⟩ := bz_t h40 (by omega)
      have hWx := hW x rfl
      refine f_aload_n hZ dX7_atom_46 rfl ?_
      refine vX7_232 hZ dX7_atom_47 (t_X7_opens hS (by omega)) (fun a47 M47 r47 h47 => ?_)
      obtain ⟨h47f, h47⟩ := h47
      replace h47 := h47.resolve_right (fun z => by omega)
      refine f_eq (tgt := 161) hZ dX7_atom_50 rfl (by first | omega | exact rg_of _) (fun h50 => ?_) (fun h50 => ?_)
      · refine f_iload_n hZ dX7_atom_161 rfl ?_
        exact f_retI hZ hR dX7_atom_162 rfl (by first | omega | exact rg_of _) (by first | (exfalso; omega) | exact at_nw (c := 0) (Or.inl hx1) h117.1 h117.2 (by rw [if_pos hx1]; exact hx2) | exact at_nw (c := 0) (Or.inr hx1) h151.1 (h139.2.1.trans h151.2) (by rw [if_neg (by omega)]; exact h139.2.2.1 x rfl hx1) | (refine ⟨?_, h12f, fun z hz => ?_⟩; show mS B n t o (oneF B n none x) _; rw [show oneF B n none x = .error (pat x) from if_neg (by omega)]; exact h12.2.2.1; have hz : oneF B n none x = .ok z := hz; rw [show oneF B n none x = .error (pat x) from if_neg (by omega)] at hz; cases hz) | (refine ⟨?_, h47f, fun z hz => ?_⟩; show mS B n t o (oneF B n none x) _; rw [show oneF B n none x = .error (pat x) from if_neg (by omega)]; exact h47.2.2.1; have hz : oneF B n none x = .ok z := hz; rw [show oneF B n none x = .error (pat x) from if_neg (by omega)] at hz; cases hz) | (have hn0 : ¬ ∃ x, e = .ok x ∧ ptk x = 257 := fun z => absurd (h139.2.2.2.2 z) (by omega); refine at_fail ⟨?_, h139.2.1⟩ (fun x hx => one_no ?_); have hh := h139.1; (cases e with | error p => exact hh | ok y => exact (show mS B n t o (.error (pat y)) _ by have h2 : eb (.ok y) (fun x => if ptk x = 257 then Except.ok x else .error (pat x)) = .error (pat y) := if_neg (fun z => hn0 ⟨y, rfl, z⟩); rw [h2] at hh; exact hh)); have n5 := bz_f h5 (by omega); have n40 := bz_f h40 (by omega); have g5 : ptk x ≠ 45 := fun z => n5 ⟨x, hx, z⟩; have g40 : ptk x ≠ 40 := fun z => n40 ⟨x, hx, z⟩; have g7 : ptk x ≠ 257 := fun z => hn0 ⟨x, hx, z⟩; subst hx; have t1 := hS.tok.1; exact ⟨fun z => by have := t1 z; omega, g7, g5, g40⟩) | (refine at_fail ⟨h158.1, h158.2.1⟩ (fun x hx => one_no ?_); have n5 := bz_f h5 (by omega); have n40 := bz_f h40 (by omega); have g5 : ptk x ≠ 45 := fun z => n5 ⟨x, hx, z⟩; have g40 : ptk x ≠ 40 := fun z => n40 ⟨x, hx, z⟩; subst hx; have tk := hS.tok; have t1 := tk.1; have t2 := tk.2.1; have t4 := tk.2.2.2; clear tk; refine ⟨fun z => ?_, fun z => ?_, g5, g40⟩; have := t1 z; omega; have := t2 (by omega) (by omega); omega))
      · exfalso; omega
  · obtain ⟨x, rfl, hx1⟩ := bz_t h5 (by omega)
    have hWx := hW x rfl
    refine f_aload_n hZ dX7_atom_11 rfl ?_
    refine vX7_232 hZ dX7_atom_12 (t_X7_opens hS (by omega)) (fun a12 M12 r12 h12 => ?_)
    obtain ⟨h12f, h12⟩ := h12
    replace h12 := h12.resolve_right (fun z => by omega)
    refine f_eq (tgt := 161) hZ dX7_atom_15 rfl (by first | omega | exact rg_of _) (fun h15 => ?_) (fun h15 => ?_)
    · refine f_iload_n hZ dX7_atom_161 rfl ?_
      exact f_retI hZ hR dX7_atom_162 rfl (by first | omega | exact rg_of _) (by first | (exfalso; omega) | exact at_nw (c := 0) (Or.inl hx1) h117.1 h117.2 (by rw [if_pos hx1]; exact hx2) | exact at_nw (c := 0) (Or.inr hx1) h151.1 (h139.2.1.trans h151.2) (by rw [if_neg (by omega)]; exact h139.2.2.1 x rfl hx1) | (refine ⟨?_, h12f, fun z hz => ?_⟩; show mS B n t o (oneF B n none x) _; rw [show oneF B n none x = .error (pat x) from if_neg (by omega)]; exact h12.2.2.1; have hz : oneF B n none x = .ok z := hz; rw [show oneF B n none x = .error (pat x) from if_neg (by omega)] at hz; cases hz) | (refine ⟨?_, h47f, fun z hz => ?_⟩; show mS B n t o (oneF B n none x) _; rw [show oneF B n none x = .error (pat x) from if_neg (by omega)]; exact h47.2.2.1; have hz : oneF B n none x = .ok z := hz; rw [show oneF B n none x = .error (pat x) from if_neg (by omega)] at hz; cases hz) | (have hn0 : ¬ ∃ x, e = .ok x ∧ ptk x = 257 := fun z => absurd (h139.2.2.2.2 z) (by omega); refine at_fail ⟨?_, h139.2.1⟩ (fun x hx => one_no ?_); have hh := h139.1; (cases e with | error p => exact hh | ok y => exact (show mS B n t o (.error (pat y)) _ by have h2 : eb (.ok y) (fun x => if ptk x = 257 then Except.ok x else .error (pat x)) = .error (pat y) := if_neg (fun z => hn0 ⟨y, rfl, z⟩); rw [h2] at hh; exact hh)); have n5 := bz_f h5 (by omega); have n40 := bz_f h40 (by omega); have g5 : ptk x ≠ 45 := fun z => n5 ⟨x, hx, z⟩; have g40 : ptk x ≠ 40 := fun z => n40 ⟨x, hx, z⟩; have g7 : ptk x ≠ 257 := fun z => hn0 ⟨x, hx, z⟩; subst hx; have t1 := hS.tok.1; exact ⟨fun z => by have := t1 z; omega, g7, g5, g40⟩) | (refine at_fail ⟨h158.1, h158.2.1⟩ (fun x hx => one_no ?_); have n5 := bz_f h5 (by omega); have n40 := bz_f h40 (by omega); have g5 : ptk x ≠ 45 := fun z => n5 ⟨x, hx, z⟩; have g40 : ptk x ≠ 40 := fun z => n40 ⟨x, hx, z⟩; subst hx; have tk := hS.tok; have t1 := tk.1; have t2 := tk.2.1; have t4 := tk.2.2.2; clear tk; refine ⟨fun z => ?_, fun z => ?_, g5, g40⟩; have := t1 z; omega; have := t2 (by omega) (by omega); omega))
    · exfalso; omega

set_option maxRecDepth 20000 in
set_option maxHeartbeats 4000000 in
theorem t_X7_atom_s {X : fX} {B : Int → Int} {n t : Int} {d : Nat} {o : Int} (ho : 0 ≤ o ∧ o ≤ 4) {fo fe : pT → pE} (hO : MC B n t X (d + 9) mX7_atom (o + 1) fo) (hE : MC B n t X (d + 9) mX7_either (o + 1) fe) : MC B n t X (d + 10) mX7_atom o (oneF B n (some (fo, fe))) := by
  intro M e hS hW
  refine fC.of (L := [_, _]) (by decide +kernel) rfl (Nat.le_of_ble_eq_true rfl) (fun Z hZ hR => ?_)
  refine f_iconst hZ dX7_atom_0 ?_
  refine f_istore_n (L' := [_, _]) hZ dX7_atom_1 rfl rfl ?_
  refine f_aload_n hZ dX7_atom_2 rfl ?_
  refine f_bipush hZ dX7_atom_3 ?_
  refine vX7_229 hZ dX7_atom_5 (t_X7_isSign (by omega) hS) (fun a5 M5 r5 h5 => ?_)
  obtain ⟨e5, h5⟩ := h5
  replace e5 := e5.symm
  subst e5
  refine f_eq (tgt := 37) hZ dX7_atom_8 rfl (by first | omega | exact rg_of _) (fun h8 => ?_) (fun h8 => ?_)
  · refine f_aload_n hZ dX7_atom_37 rfl ?_
    refine f_bipush hZ dX7_atom_38 ?_
    refine vX7_229 hZ dX7_atom_40 (t_X7_isSign (by omega) hS) (fun a40 M40 r40 h40 => ?_)
    obtain ⟨e40, h40⟩ := h40
    replace e40 := e40.symm
    subst e40
    refine f_eq (tgt := 95) hZ dX7_atom_43 rfl (by first | omega | exact rg_of _) (fun h43 => ?_) (fun h43 => ?_)
    · refine f_aload_n hZ dX7_atom_95 rfl ?_
      refine gX7_187 hZ dX7_atom_96 (fun r96 => ?_)
      refine f_ne (tgt := 123) hZ dX7_atom_99 rfl (by first | omega | exact rg_of _) (fun h99 => ?_) (fun h99 => ?_)
      · refine f_aload_n hZ dX7_atom_123 rfl ?_
        refine gX7_187 hZ dX7_atom_124 (fun r124 => ?_)
        refine f_ne (tgt := 157) hZ dX7_atom_127 rfl (by first | omega | exact rg_of _) (fun h127 => ?_) (fun h127 => ?_)
        · refine f_aload_n hZ dX7_atom_157 rfl ?_
          refine vX7_201 hZ dX7_atom_158 (c_mfail hS) (fun M158 h158 => ?_)
          refine f_iload_n hZ dX7_atom_161 rfl ?_
          exact f_retI hZ hR dX7_atom_162 rfl (by first | omega | exact rg_of _) (by first | (exfalso; omega) | exact at_nw (c := 0) (Or.inl hx1) h117.1 h117.2 (by rw [if_pos hx1]; exact hx2) | exact at_nw (c := 0) (Or.inr hx1) h151.1 (h139.2.1.trans h151.2) (by rw [if_neg (by omega)]; exact h139.2.2.1 x rfl hx1) | exact at_minus hx1 h19 h12f (nmM_eq h12f) (by omega) | (have hop := h89; exact at_par hx1 hye hyk h89.1 (((h47f.trans h54.2.1).trans (hop0)).trans h89.2) (by rw [h54.2.2 y hye, nmM_eq h47f])) | exact at_parx hx1 (bz_f h61 (by omega)) (h68o.1) (((h47f.trans h54.2.1).trans h68.2.1).trans h68o.2) | (have hn0 : ¬ ∃ x, e = .ok x ∧ ptk x = 257 := fun z => absurd (h139.2.2.2.2 z) (by omega); refine at_fail ⟨?_, h139.2.1⟩ (fun x hx => one_no ?_); have hh := h139.1; (cases e with | error p => exact hh | ok y => exact (show mS B n t o (.error (pat y)) _ by have h2 : eb (.ok y) (fun x => if ptk x = 257 then Except.ok x else .error (pat x)) = .error (pat y) := if_neg (fun z => hn0 ⟨y, rfl, z⟩); rw [h2] at hh; exact hh)); have n5 := bz_f h5 (by omega); have n40 := bz_f h40 (by omega); have g5 : ptk x ≠ 45 := fun z => n5 ⟨x, hx, z⟩; have g40 : ptk x ≠ 40 := fun z => n40 ⟨x, hx, z⟩; have g7 : ptk x ≠ 257 := fun z => hn0 ⟨x, hx, z⟩; subst hx; have t1 := hS.tok.1; exact ⟨fun z => by have := t1 z; omega, g7, g5, g40⟩) | (refine at_fail ⟨h158.1, h158.2.1⟩ (fun x hx => one_no ?_); have n5 := bz_f h5 (by omega); have n40 := bz_f h40 (by omega); have g5 : ptk x ≠ 45 := fun z => n5 ⟨x, hx, z⟩; have g40 : ptk x ≠ 40 := fun z => n40 ⟨x, hx, z⟩; subst hx; have tk := hS.tok; have t1 := tk.1; have t2 := tk.2.1; have t4 := tk.2.2.2; clear tk; refine ⟨fun z => ?_, fun z => ?_, g5, g40⟩; have := t1 z; omega; have := t2 (by omega) (by omega); omega))
        · refine f_aload_n hZ dX7_atom_130 rfl ?_
          refine gX7_170 hZ dX7_atom_131 (fun r131 => ?_)
          refine f_iconst hZ dX7_atom_134 ?_
          refine f_ine (tgt := 157) hZ dX7_atom_135 rfl (by first | omega | exact rg_of _) (by first | omega | exact rg_of _) (fun h135 => ?_) (fun h135 => ?_)
          · refine f_aload_n hZ dX7_atom_157 rfl ?_
            refine vX7_201 hZ dX7_atom_158 (c_mfail hS) (fun M158 h158 => ?_)
            refine f_iload_n hZ dX7_atom_161 rfl ?_
            exact f_retI hZ hR dX7_atom_162 rfl (by first | omega | exact rg_of _) (by first | (exfalso; omega) | exact at_nw (c := 0) (Or.inl hx1) h117.1 h117.2 (by rw [if_pos hx1]; exact hx2) | exact at_nw (c := 0) (Or.inr hx1) h151.1 (h139.2.1.trans h151.2) (by rw [if_neg (by omega)]; exact h139.2.2.1 x rfl hx1) | exact at_minus hx1 h19 h12f (nmM_eq h12f) (by omega) | (have hop := h89; exact at_par hx1 hye hyk h89.1 (((h47f.trans h54.2.1).trans (hop0)).trans h89.2) (by rw [h54.2.2 y hye, nmM_eq h47f])) | exact at_parx hx1 (bz_f h61 (by omega)) (h68o.1) (((h47f.trans h54.2.1).trans h68.2.1).trans h68o.2) | (have hn0 : ¬ ∃ x, e = .ok x ∧ ptk x = 257 := fun z => absurd (h139.2.2.2.2 z) (by omega); refine at_fail ⟨?_, h139.2.1⟩ (fun x hx => one_no ?_); have hh := h139.1; (cases e with | error p => exact hh | ok y => exact (show mS B n t o (.error (pat y)) _ by have h2 : eb (.ok y) (fun x => if ptk x = 257 then Except.ok x else .error (pat x)) = .error (pat y) := if_neg (fun z => hn0 ⟨y, rfl, z⟩); rw [h2] at hh; exact hh)); have n5 := bz_f h5 (by omega); have n40 := bz_f h40 (by omega); have g5 : ptk x ≠ 45 := fun z => n5 ⟨x, hx, z⟩; have g40 : ptk x ≠ 40 := fun z => n40 ⟨x, hx, z⟩; have g7 : ptk x ≠ 257 := fun z => hn0 ⟨x, hx, z⟩; subst hx; have t1 := hS.tok.1; exact ⟨fun z => by have := t1 z; omega, g7, g5, g40⟩) | (refine at_fail ⟨h158.1, h158.2.1⟩ (fun x hx => one_no ?_); have n5 := bz_f h5 (by omega); have n40 := bz_f h40 (by omega); have g5 : ptk x ≠ 45 := fun z => n5 ⟨x, hx, z⟩; have g40 : ptk x ≠ 40 := fun z => n40 ⟨x, hx, z⟩; subst hx; have tk := hS.tok; have t1 := tk.1; have t2 := tk.2.1; have t4 := tk.2.2.2; clear tk; refine ⟨fun z => ?_, fun z => ?_, g5, g40⟩; have := t1 z; omega; have := t2 (by omega) (by omega); omega))
          · refine f_aload_n hZ dX7_atom_138 rfl ?_
            refine vX7_243 hZ dX7_atom_139 (t_X7_name hS) (fun a139 M139 r139 h139 => ?_)
            refine f_istore_n (L' := [_, _]) hZ dX7_atom_142 rfl rfl ?_
            refine f_aload_n hZ dX7_atom_143 rfl ?_
            refine gX7_187 hZ dX7_atom_144 (fun r144 => ?_)
            refine f_ne (tgt := 161) hZ dX7_atom_147 rfl (by first | omega | exact rg_of _) (fun h147 => ?_) (fun h147 => ?_)
            · refine f_iload_n hZ dX7_atom_161 rfl ?_
              exact f_retI hZ hR dX7_atom_162 rfl (by first | omega | exact rg_of _) (by first | (exfalso; omega) | exact at_nw (c := 0) (Or.inl hx1) h117.1 h117.2 (by rw [if_pos hx1]; exact hx2) | exact at_nw (c := 0) (Or.inr hx1) h151.1 (h139.2.1.trans h151.2) (by rw [if_neg (by omega)]; exact h139.2.2.1 x rfl hx1) | exact at_minus hx1 h19 h12f (nmM_eq h12f) (by omega) | (have hop := h89; exact at_par hx1 hye hyk h89.1 (((h47f.trans h54.2.1).trans (hop0)).trans h89.2) (by rw [h54.2.2 y hye, nmM_eq h47f])) | exact at_parx hx1 (bz_f h61 (by omega)) (h68o.1) (((h47f.trans h54.2.1).trans h68.2.1).trans h68o.2) | (have hn0 : ¬ ∃ x, e = .ok x ∧ ptk x = 257 := fun z => absurd (h139.2.2.2.2 z) (by omega); refine at_fail ⟨?_, h139.2.1⟩ (fun x hx => one_no ?_); have hh := h139.1; (cases e with | error p => exact hh | ok y => exact (show mS B n t o (.error (pat y)) _ by have h2 : eb (.ok y) (fun x => if ptk x = 257 then Except.ok x else .error (pat x)) = .error (pat y) := if_neg (fun z => hn0 ⟨y, rfl, z⟩); rw [h2] at hh; exact hh)); have n5 := bz_f h5 (by omega); have n40 := bz_f h40 (by omega); have g5 : ptk x ≠ 45 := fun z => n5 ⟨x, hx, z⟩; have g40 : ptk x ≠ 40 := fun z => n40 ⟨x, hx, z⟩; have g7 : ptk x ≠ 257 := fun z => hn0 ⟨x, hx, z⟩; subst hx; have t1 := hS.tok.1; exact ⟨fun z => by have := t1 z; omega, g7, g5, g40⟩) | (refine at_fail ⟨h158.1, h158.2.1⟩ (fun x hx => one_no ?_); have n5 := bz_f h5 (by omega); have n40 := bz_f h40 (by omega); have g5 : ptk x ≠ 45 := fun z => n5 ⟨x, hx, z⟩; have g40 : ptk x ≠ 40 := fun z => n40 ⟨x, hx, z⟩; subst hx; have tk := hS.tok; have t1 := tk.1; have t2 := tk.2.1; have t4 := tk.2.2.2; clear tk; refine ⟨fun z => ?_, fun z => ?_, g5, g40⟩; have := t1 z; omega; have := t2 (by omega) (by omega); omega))
            · obtain ⟨x, rfl, hx1⟩ := h139.2.2.2.1 (by omega)
              have hS3 := h139.1
              rw [show eb (.ok x) (fun x => if ptk x = 257 then Except.ok x else .error (pat x)) = .ok x from if_pos hx1] at hS3
              refine f_aload_n hZ dX7_atom_150 rfl ?_
              refine vX7_204 hZ dX7_atom_151 (c_next hS3 (by omega)) (fun M151 h151 => ?_)
              refine f_goto (tgt := 161) hZ dX7_atom_154 rfl ?_
              refine f_iload_n hZ dX7_atom_161 rfl ?_
              exact f_retI hZ hR dX7_atom_162 rfl (by first | omega | exact rg_of _) (by first | (exfalso; omega) | exact at_nw (c := 0) (Or.inl hx1) h117.1 h117.2 (by rw [if_pos hx1]; exact hx2) | exact at_nw (c := 0) (Or.inr hx1) h151.1 (h139.2.1.trans h151.2) (by rw [if_neg (by omega)]; exact h139.2.2.1 x rfl hx1) | exact at_minus hx1 h19 h12f (nmM_eq h12f) (by omega) | (have hop := h89; exact at_par hx1 hye hyk h89.1 (((h47f.trans h54.2.1).trans (hop0)).trans h89.2) (by rw [h54.2.2 y hye, nmM_eq h47f])) | exact at_parx hx1 (bz_f h61 (by omega)) (h68o.1) (((h47f.trans h54.2.1).trans h68.2.1).trans h68o.2) | (have hn0 : ¬ ∃ x, e = .ok x ∧ ptk x = 257 := fun z => absurd (h139.2.2.2.2 z) (by omega); refine at_fail ⟨?_, h139.2.1⟩ (fun x hx => one_no ?_); have hh := h139.1; (cases e with | error p => exact hh | ok y => exact (show mS B n t o (.error (pat y)) _ by have h2 : eb (.ok y) (fun x => if ptk x = 257 then Except.ok x else .error (pat x)) = .error (pat y) := if_neg (fun z => hn0 ⟨y, rfl, z⟩); rw [h2] at hh; exact hh)); have n5 := bz_f h5 (by omega); have n40 := bz_f h40 (by omega); have g5 : ptk x ≠ 45 := fun z => n5 ⟨x, hx, z⟩; have g40 : ptk x ≠ 40 := fun z => n40 ⟨x, hx, z⟩; have g7 : ptk x ≠ 257 := fun z => hn0 ⟨x, hx, z⟩; subst hx; have t1 := hS.tok.1; exact ⟨fun z => by have := t1 z; omega, g7, g5, g40⟩) | (refine at_fail ⟨h158.1, h158.2.1⟩ (fun x hx => one_no ?_); have n5 := bz_f h5 (by omega); have n40 := bz_f h40 (by omega); have g5 : ptk x ≠ 45 := fun z => n5 ⟨x, hx, z⟩; have g40 : ptk x ≠ 40 := fun z => n40 ⟨x, hx, z⟩; subst hx; have tk := hS.tok; have t1 := tk.1; have t2 := tk.2.1; have t4 := tk.2.2.2; clear tk; refine ⟨fun z => ?_, fun z => ?_, g5, g40⟩; have := t1 z; omega; have := t2 (by omega) (by omega); omega))
      · refine f_aload_n hZ dX7_atom_102 rfl ?_
        refine gX7_170 hZ dX7_atom_103 (fun r103 => ?_)
        refine f_iconst hZ dX7_atom_106 ?_
        refine f_ine (tgt := 123) hZ dX7_atom_107 rfl (by first | omega | exact rg_of _) (by first | omega | exact rg_of _) (fun h107 => ?_) (fun h107 => ?_)
        · refine f_aload_n hZ dX7_atom_123 rfl ?_
          refine gX7_187 hZ dX7_atom_124 (fun r124 => ?_)
          refine f_ne (tgt := 157) hZ dX7_atom_127 rfl (by first | omega | exact rg_of _) (fun h127 => ?_) (fun h127 => ?_)
          · refine f_aload_n hZ dX7_atom_157 rfl ?_
            refine vX7_201 hZ dX7_atom_158 (c_mfail hS) (fun M158 h158 => ?_)
            refine f_iload_n hZ dX7_atom_161 rfl ?_
            exact f_retI hZ hR dX7_atom_162 rfl (by first | omega | exact rg_of _) (by first | (exfalso; omega) | exact at_nw (c := 0) (Or.inl hx1) h117.1 h117.2 (by rw [if_pos hx1]; exact hx2) | exact at_nw (c := 0) (Or.inr hx1) h151.1 (h139.2.1.trans h151.2) (by rw [if_neg (by omega)]; exact h139.2.2.1 x rfl hx1) | exact at_minus hx1 h19 h12f (nmM_eq h12f) (by omega) | (have hop := h89; exact at_par hx1 hye hyk h89.1 (((h47f.trans h54.2.1).trans (hop0)).trans h89.2) (by rw [h54.2.2 y hye, nmM_eq h47f])) | exact at_parx hx1 (bz_f h61 (by omega)) (h68o.1) (((h47f.trans h54.2.1).trans h68.2.1).trans h68o.2) | (have hn0 : ¬ ∃ x, e = .ok x ∧ ptk x = 257 := fun z => absurd (h139.2.2.2.2 z) (by omega); refine at_fail ⟨?_, h139.2.1⟩ (fun x hx => one_no ?_); have hh := h139.1; (cases e with | error p => exact hh | ok y => exact (show mS B n t o (.error (pat y)) _ by have h2 : eb (.ok y) (fun x => if ptk x = 257 then Except.ok x else .error (pat x)) = .error (pat y) := if_neg (fun z => hn0 ⟨y, rfl, z⟩); rw [h2] at hh; exact hh)); have n5 := bz_f h5 (by omega); have n40 := bz_f h40 (by omega); have g5 : ptk x ≠ 45 := fun z => n5 ⟨x, hx, z⟩; have g40 : ptk x ≠ 40 := fun z => n40 ⟨x, hx, z⟩; have g7 : ptk x ≠ 257 := fun z => hn0 ⟨x, hx, z⟩; subst hx; have t1 := hS.tok.1; exact ⟨fun z => by have := t1 z; omega, g7, g5, g40⟩) | (refine at_fail ⟨h158.1, h158.2.1⟩ (fun x hx => one_no ?_); have n5 := bz_f h5 (by omega); have n40 := bz_f h40 (by omega); have g5 : ptk x ≠ 45 := fun z => n5 ⟨x, hx, z⟩; have g40 : ptk x ≠ 40 := fun z => n40 ⟨x, hx, z⟩; subst hx; have tk := hS.tok; have t1 := tk.1; have t2 := tk.2.1; have t4 := tk.2.2.2; clear tk; refine ⟨fun z => ?_, fun z => ?_, g5, g40⟩; have := t1 z; omega; have := t2 (by omega) (by omega); omega))
          · refine f_aload_n hZ dX7_atom_130 rfl ?_
            refine gX7_170 hZ dX7_atom_131 (fun r131 => ?_)
            refine f_iconst hZ dX7_atom_134 ?_
            refine f_ine (tgt := 157) hZ dX7_atom_135 rfl (by first | omega | exact rg_of _) (by first | omega | exact rg_of _) (fun h135 => ?_) (fun h135 => ?_)
            · refine f_aload_n hZ dX7_atom_157 rfl ?_
              refine vX7_201 hZ dX7_atom_158 (c_mfail hS) (fun M158 h158 => ?_)
              refine f_iload_n hZ dX7_atom_161 rfl ?_
              exact f_retI hZ hR dX7_atom_162 rfl (by first | omega | exact rg_of _) (by first | (exfalso; omega) | exact at_nw (c := 0) (Or.inl hx1) h117.1 h117.2 (by rw [if_pos hx1]; exact hx2) | exact at_nw (c := 0) (Or.inr hx1) h151.1 (h139.2.1.trans h151.2) (by rw [if_neg (by omega)]; exact h139.2.2.1 x rfl hx1) | exact at_minus hx1 h19 h12f (nmM_eq h12f) (by omega) | (have hop := h89; exact at_par hx1 hye hyk h89.1 (((h47f.trans h54.2.1).trans (hop0)).trans h89.2) (by rw [h54.2.2 y hye, nmM_eq h47f])) | exact at_parx hx1 (bz_f h61 (by omega)) (h68o.1) (((h47f.trans h54.2.1).trans h68.2.1).trans h68o.2) | (have hn0 : ¬ ∃ x, e = .ok x ∧ ptk x = 257 := fun z => absurd (h139.2.2.2.2 z) (by omega); refine at_fail ⟨?_, h139.2.1⟩ (fun x hx => one_no ?_); have hh := h139.1; (cases e with | error p => exact hh | ok y => exact (show mS B n t o (.error (pat y)) _ by have h2 : eb (.ok y) (fun x => if ptk x = 257 then Except.ok x else .error (pat x)) = .error (pat y) := if_neg (fun z => hn0 ⟨y, rfl, z⟩); rw [h2] at hh; exact hh)); have n5 := bz_f h5 (by omega); have n40 := bz_f h40 (by omega); have g5 : ptk x ≠ 45 := fun z => n5 ⟨x, hx, z⟩; have g40 : ptk x ≠ 40 := fun z => n40 ⟨x, hx, z⟩; have g7 : ptk x ≠ 257 := fun z => hn0 ⟨x, hx, z⟩; subst hx; have t1 := hS.tok.1; exact ⟨fun z => by have := t1 z; omega, g7, g5, g40⟩) | (refine at_fail ⟨h158.1, h158.2.1⟩ (fun x hx => one_no ?_); have n5 := bz_f h5 (by omega); have n40 := bz_f h40 (by omega); have g5 : ptk x ≠ 45 := fun z => n5 ⟨x, hx, z⟩; have g40 : ptk x ≠ 40 := fun z => n40 ⟨x, hx, z⟩; subst hx; have tk := hS.tok; have t1 := tk.1; have t2 := tk.2.1; have t4 := tk.2.2.2; clear tk; refine ⟨fun z => ?_, fun z => ?_, g5, g40⟩; have := t1 z; omega; have := t2 (by omega) (by omega); omega))
            · refine f_aload_n hZ dX7_atom_138 rfl ?_
              refine vX7_243 hZ dX7_atom_139 (t_X7_name hS) (fun a139 M139 r139 h139 => ?_)
              refine f_istore_n (L' := [_, _]) hZ dX7_atom_142 rfl rfl ?_
              refine f_aload_n hZ dX7_atom_143 rfl ?_
              refine gX7_187 hZ dX7_atom_144 (fun r144 => ?_)
              refine f_ne (tgt := 161) hZ dX7_atom_147 rfl (by first | omega | exact rg_of _) (fun h147 => ?_) (fun h147 => ?_)
              · refine f_iload_n hZ dX7_atom_161 rfl ?_
                exact f_retI hZ hR dX7_atom_162 rfl (by first | omega | exact rg_of _) (by first | (exfalso; omega) | exact at_nw (c := 0) (Or.inl hx1) h117.1 h117.2 (by rw [if_pos hx1]; exact hx2) | exact at_nw (c := 0) (Or.inr hx1) h151.1 (h139.2.1.trans h151.2) (by rw [if_neg (by omega)]; exact h139.2.2.1 x rfl hx1) | exact at_minus hx1 h19 h12f (nmM_eq h12f) (by omega) | (have hop := h89; exact at_par hx1 hye hyk h89.1 (((h47f.trans h54.2.1).trans (hop0)).trans h89.2) (by rw [h54.2.2 y hye, nmM_eq h47f])) | exact at_parx hx1 (bz_f h61 (by omega)) (h68o.1) (((h47f.trans h54.2.1).trans h68.2.1).trans h68o.2) | (have hn0 : ¬ ∃ x, e = .ok x ∧ ptk x = 257 := fun z => absurd (h139.2.2.2.2 z) (by omega); refine at_fail ⟨?_, h139.2.1⟩ (fun x hx => one_no ?_); have hh := h139.1; (cases e with | error p => exact hh | ok y => exact (show mS B n t o (.error (pat y)) _ by have h2 : eb (.ok y) (fun x => if ptk x = 257 then Except.ok x else .error (pat x)) = .error (pat y) := if_neg (fun z => hn0 ⟨y, rfl, z⟩); rw [h2] at hh; exact hh)); have n5 := bz_f h5 (by omega); have n40 := bz_f h40 (by omega); have g5 : ptk x ≠ 45 := fun z => n5 ⟨x, hx, z⟩; have g40 : ptk x ≠ 40 := fun z => n40 ⟨x, hx, z⟩; have g7 : ptk x ≠ 257 := fun z => hn0 ⟨x, hx, z⟩; subst hx; have t1 := hS.tok.1; exact ⟨fun z => by have := t1 z; omega, g7, g5, g40⟩) | (refine at_fail ⟨h158.1, h158.2.1⟩ (fun x hx => one_no ?_); have n5 := bz_f h5 (by omega); have n40 := bz_f h40 (by omega); have g5 : ptk x ≠ 45 := fun z => n5 ⟨x, hx, z⟩; have g40 : ptk x ≠ 40 := fun z => n40 ⟨x, hx, z⟩; subst hx; have tk := hS.tok; have t1 := tk.1; have t2 := tk.2.1; have t4 := tk.2.2.2; clear tk; refine ⟨fun z => ?_, fun z => ?_, g5, g40⟩; have := t1 z; omega; have := t2 (by omega) (by omega); omega))
              · obtain ⟨x, rfl, hx1⟩ := h139.2.2.2.1 (by omega)
                have hS3 := h139.1
                rw [show eb (.ok x) (fun x => if ptk x = 257 then Except.ok x else .error (pat x)) = .ok x from if_pos hx1] at hS3
                refine f_aload_n hZ dX7_atom_150 rfl ?_
                refine vX7_204 hZ dX7_atom_151 (c_next hS3 (by omega)) (fun M151 h151 => ?_)
                refine f_goto (tgt := 161) hZ dX7_atom_154 rfl ?_
                refine f_iload_n hZ dX7_atom_161 rfl ?_
                exact f_retI hZ hR dX7_atom_162 rfl (by first | omega | exact rg_of _) (by first | (exfalso; omega) | exact at_nw (c := 0) (Or.inl hx1) h117.1 h117.2 (by rw [if_pos hx1]; exact hx2) | exact at_nw (c := 0) (Or.inr hx1) h151.1 (h139.2.1.trans h151.2) (by rw [if_neg (by omega)]; exact h139.2.2.1 x rfl hx1) | exact at_minus hx1 h19 h12f (nmM_eq h12f) (by omega) | (have hop := h89; exact at_par hx1 hye hyk h89.1 (((h47f.trans h54.2.1).trans (hop0)).trans h89.2) (by rw [h54.2.2 y hye, nmM_eq h47f])) | exact at_parx hx1 (bz_f h61 (by omega)) (h68o.1) (((h47f.trans h54.2.1).trans h68.2.1).trans h68o.2) | (have hn0 : ¬ ∃ x, e = .ok x ∧ ptk x = 257 := fun z => absurd (h139.2.2.2.2 z) (by omega); refine at_fail ⟨?_, h139.2.1⟩ (fun x hx => one_no ?_); have hh := h139.1; (cases e with | error p => exact hh | ok y => exact (show mS B n t o (.error (pat y)) _ by have h2 : eb (.ok y) (fun x => if ptk x = 257 then Except.ok x else .error (pat x)) = .error (pat y) := if_neg (fun z => hn0 ⟨y, rfl, z⟩); rw [h2] at hh; exact hh)); have n5 := bz_f h5 (by omega); have n40 := bz_f h40 (by omega); have g5 : ptk x ≠ 45 := fun z => n5 ⟨x, hx, z⟩; have g40 : ptk x ≠ 40 := fun z => n40 ⟨x, hx, z⟩; have g7 : ptk x ≠ 257 := fun z => hn0 ⟨x, hx, z⟩; subst hx; have t1 := hS.tok.1; exact ⟨fun z => by have := t1 z; omega, g7, g5, g40⟩) | (refine at_fail ⟨h158.1, h158.2.1⟩ (fun x hx => one_no ?_); have n5 := bz_f h5 (by omega); have n40 := bz_f h40 (by omega); have g5 : ptk x ≠ 45 := fun z => n5 ⟨x, hx, z⟩; have g40 : ptk x ≠ 40 := fun z => n40 ⟨x, hx, z⟩; subst hx; have tk := hS.tok; have t1 := tk.1; have t2 := tk.2.1; have t4 := tk.2.2.2; clear tk; refine ⟨fun z => ?_, fun z => ?_, g5, g40⟩; have := t1 z; omega; have := t2 (by omega) (by omega); omega))
        · obtain ⟨x, rfl, hx1, hx2⟩ := hS.num (by omega) (by omega)
          have hWx := hW x rfl
          have hv4 := hWx.2.2.2.1 hx1
          refine f_aload_n hZ dX7_atom_110 rfl ?_
          refine gX7_181 hZ dX7_atom_111 (fun r111 => ?_)
          refine f_l2i hZ dX7_atom_114 ?_
          refine f_istore_n (L' := [_, _]) hZ dX7_atom_115 rfl rfl ?_
          refine f_aload_n hZ dX7_atom_116 rfl ?_
          refine vX7_204 hZ dX7_atom_117 (c_next hS (by omega)) (fun M117 h117 => ?_)
          refine f_goto (tgt := 161) hZ dX7_atom_120 rfl ?_
          refine f_iload_n hZ dX7_atom_161 rfl ?_
          exact f_retI hZ hR dX7_atom_162 rfl (by first | omega | exact rg_of _) (by first | (exfalso; omega) | exact at_nw (c := 0) (Or.inl hx1) h117.1 h117.2 (by rw [if_pos hx1]; exact hx2) | exact at_nw (c := 0) (Or.inr hx1) h151.1 (h139.2.1.trans h151.2) (by rw [if_neg (by omega)]; exact h139.2.2.1 x rfl hx1) | exact at_minus hx1 h19 h12f (nmM_eq h12f) (by omega) | (have hop := h89; exact at_par hx1 hye hyk h89.1 (((h47f.trans h54.2.1).trans (hop0)).trans h89.2) (by rw [h54.2.2 y hye, nmM_eq h47f])) | exact at_parx hx1 (bz_f h61 (by omega)) (h68o.1) (((h47f.trans h54.2.1).trans h68.2.1).trans h68o.2) | (have hn0 : ¬ ∃ x, e = .ok x ∧ ptk x = 257 := fun z => absurd (h139.2.2.2.2 z) (by omega); refine at_fail ⟨?_, h139.2.1⟩ (fun x hx => one_no ?_); have hh := h139.1; (cases e with | error p => exact hh | ok y => exact (show mS B n t o (.error (pat y)) _ by have h2 : eb (.ok y) (fun x => if ptk x = 257 then Except.ok x else .error (pat x)) = .error (pat y) := if_neg (fun z => hn0 ⟨y, rfl, z⟩); rw [h2] at hh; exact hh)); have n5 := bz_f h5 (by omega); have n40 := bz_f h40 (by omega); have g5 : ptk x ≠ 45 := fun z => n5 ⟨x, hx, z⟩; have g40 : ptk x ≠ 40 := fun z => n40 ⟨x, hx, z⟩; have g7 : ptk x ≠ 257 := fun z => hn0 ⟨x, hx, z⟩; subst hx; have t1 := hS.tok.1; exact ⟨fun z => by have := t1 z; omega, g7, g5, g40⟩) | (refine at_fail ⟨h158.1, h158.2.1⟩ (fun x hx => one_no ?_); have n5 := bz_f h5 (by omega); have n40 := bz_f h40 (by omega); have g5 : ptk x ≠ 45 := fun z => n5 ⟨x, hx, z⟩; have g40 : ptk x ≠ 40 := fun z => n40 ⟨x, hx, z⟩; subst hx; have tk := hS.tok; have t1 := tk.1; have t2 := tk.2.1; have t4 := tk.2.2.2; clear tk; refine ⟨fun z => ?_, fun z => ?_, g5, g40⟩; have := t1 z; omega; have := t2 (by omega) (by omega); omega))
    · obtain ⟨x, rfl, hx1⟩ := bz_t h40 (by omega)
      have hWx := hW x rfl
      refine f_aload_n hZ dX7_atom_46 rfl ?_
      refine vX7_232 hZ dX7_atom_47 (t_X7_opens hS (by omega)) (fun a47 M47 r47 h47 => ?_)
      obtain ⟨h47f, h47⟩ := h47
      replace h47 := h47.resolve_left (fun z => by omega)
      have h47s := h47.2.2
      refine f_eq (tgt := 161) hZ dX7_atom_50 rfl (by first | omega | exact rg_of _) (fun h50 => ?_) (fun h50 => ?_)
      · exfalso; omega
      · refine f_aload_n hZ dX7_atom_53 rfl ?_
        refine vX7_240 hZ dX7_atom_54 (hE _ _ h47s (adv_we hWx (by omega))) (fun a54 M54 r54 h54 => ?_)
        refine f_istore_n (L' := [_, _]) hZ dX7_atom_57 rfl rfl ?_
        refine f_aload_n hZ dX7_atom_58 rfl ?_
        refine f_bipush hZ dX7_atom_59 ?_
        refine vX7_229 hZ dX7_atom_61 (t_X7_isSign (by omega) h54.1) (fun a61 M61 r61 h61 => ?_)
        obtain ⟨e61, h61⟩ := h61
        replace e61 := e61.symm
        subst e61
        refine f_ne (tgt := 71) hZ dX7_atom_64 rfl (by first | omega | exact rg_of _) (fun h64 => ?_) (fun h64 => ?_)
        · refine f_aload_n hZ dX7_atom_71 rfl ?_
          refine f_dup hZ dX7_atom_72 rfl ?_
          refine gX7_198 hZ dX7_atom_73 (fun r73 => ?_)
          refine f_iconst hZ dX7_atom_76 ?_
          refine f_isub hZ dX7_atom_77 ?_
          rw [show M54 59 27 - 1 = o by have := h54.1.1.2.1.1; omega]
          obtain ⟨y, hye, hyk⟩ := bz_t h61 (by omega)
          have hop := h54.1.opn (o' := o) (by omega)
          rw [hye] at hop
          have hop0 := hop.2
          have hb0 : M54 59 28 = 0 := hop.1.tok.2.2.2
          refine pX7_198 hZ dX7_atom_78 (by first | omega | exact rg_of _) ?_
          refine f_aload_n hZ dX7_atom_81 rfl ?_
          refine gX7_187 hZ dX7_atom_82 (fun r82 => ?_)
          try simp only [up_app, Nat.reduceEqDiff, Nat.reduceEqDiff, Int.reduceEq, and_true, true_and, and_false, false_and, if_true, if_false, reduceIte] at r82 ⊢
          refine f_ne (tgt := 161) hZ dX7_atom_85 rfl (by first | omega | exact rg_of _) (fun h85 => ?_) (fun h85 => ?_)
          · exfalso; omega
          · refine f_aload_n hZ dX7_atom_88 rfl ?_
            refine vX7_204 hZ dX7_atom_89 (c_next hop.1 (by omega)) (fun M89 h89 => ?_)
            refine f_goto (tgt := 161) hZ dX7_atom_92 rfl ?_
            refine f_iload_n hZ dX7_atom_161 rfl ?_
            exact f_retI hZ hR dX7_atom_162 rfl (by first | omega | exact rg_of _) (by first | (exfalso; omega) | exact at_nw (c := 0) (Or.inl hx1) h117.1 h117.2 (by rw [if_pos hx1]; exact hx2) | exact at_nw (c := 0) (Or.inr hx1) h151.1 (h139.2.1.trans h151.2) (by rw [if_neg (by omega)]; exact h139.2.2.1 x rfl hx1) | exact at_minus hx1 h19 h12f (nmM_eq h12f) (by omega) | (have hop := h89; exact at_par hx1 hye hyk h89.1 (((h47f.trans h54.2.1).trans (hop0)).trans h89.2) (by rw [h54.2.2 y hye, nmM_eq h47f])) | exact at_parx hx1 (bz_f h61 (by omega)) (h68o.1) (((h47f.trans h54.2.1).trans h68.2.1).trans h68o.2) | (have hn0 : ¬ ∃ x, e = .ok x ∧ ptk x = 257 := fun z => absurd (h139.2.2.2.2 z) (by omega); refine at_fail ⟨?_, h139.2.1⟩ (fun x hx => one_no ?_); have hh := h139.1; (cases e with | error p => exact hh | ok y => exact (show mS B n t o (.error (pat y)) _ by have h2 : eb (.ok y) (fun x => if ptk x = 257 then Except.ok x else .error (pat x)) = .error (pat y) := if_neg (fun z => hn0 ⟨y, rfl, z⟩); rw [h2] at hh; exact hh)); have n5 := bz_f h5 (by omega); have n40 := bz_f h40 (by omega); have g5 : ptk x ≠ 45 := fun z => n5 ⟨x, hx, z⟩; have g40 : ptk x ≠ 40 := fun z => n40 ⟨x, hx, z⟩; have g7 : ptk x ≠ 257 := fun z => hn0 ⟨x, hx, z⟩; subst hx; have t1 := hS.tok.1; exact ⟨fun z => by have := t1 z; omega, g7, g5, g40⟩) | (refine at_fail ⟨h158.1, h158.2.1⟩ (fun x hx => one_no ?_); have n5 := bz_f h5 (by omega); have n40 := bz_f h40 (by omega); have g5 : ptk x ≠ 45 := fun z => n5 ⟨x, hx, z⟩; have g40 : ptk x ≠ 40 := fun z => n40 ⟨x, hx, z⟩; subst hx; have tk := hS.tok; have t1 := tk.1; have t2 := tk.2.1; have t4 := tk.2.2.2; clear tk; refine ⟨fun z => ?_, fun z => ?_, g5, g40⟩; have := t1 z; omega; have := t2 (by omega) (by omega); omega))
        · refine f_aload_n hZ dX7_atom_67 rfl ?_
          refine vX7_201 hZ dX7_atom_68 (c_mfail h54.1) (fun M68 h68 => ?_)
          refine f_aload_n hZ dX7_atom_71 rfl ?_
          refine f_dup hZ dX7_atom_72 rfl ?_
          refine gX7_198 hZ dX7_atom_73 (fun r73 => ?_)
          refine f_iconst hZ dX7_atom_76 ?_
          refine f_isub hZ dX7_atom_77 ?_
          rw [show M68 59 27 - 1 = o by have := h68.1.1.2.1.1; omega]
          have h68o := h68.1.opn (o' := o) (by omega)
          have hb1 : M68 59 28 ≠ 0 := h68.2.2
          refine pX7_198 hZ dX7_atom_78 (by first | omega | exact rg_of _) ?_
          refine f_aload_n hZ dX7_atom_81 rfl ?_
          refine gX7_187 hZ dX7_atom_82 (fun r82 => ?_)
          try simp only [up_app, Nat.reduceEqDiff, Nat.reduceEqDiff, Int.reduceEq, and_true, true_and, and_false, false_and, if_true, if_false, reduceIte] at r82 ⊢
          refine f_ne (tgt := 161) hZ dX7_atom_85 rfl (by first | omega | exact rg_of _) (fun h85 => ?_) (fun h85 => ?_)
          · refine f_iload_n hZ dX7_atom_161 rfl ?_
            exact f_retI hZ hR dX7_atom_162 rfl (by first | omega | exact rg_of _) (by first | (exfalso; omega) | exact at_nw (c := 0) (Or.inl hx1) h117.1 h117.2 (by rw [if_pos hx1]; exact hx2) | exact at_nw (c := 0) (Or.inr hx1) h151.1 (h139.2.1.trans h151.2) (by rw [if_neg (by omega)]; exact h139.2.2.1 x rfl hx1) | exact at_minus hx1 h19 h12f (nmM_eq h12f) (by omega) | (have hop := h89; exact at_par hx1 hye hyk h89.1 (((h47f.trans h54.2.1).trans (hop0)).trans h89.2) (by rw [h54.2.2 y hye, nmM_eq h47f])) | exact at_parx hx1 (bz_f h61 (by omega)) (h68o.1) (((h47f.trans h54.2.1).trans h68.2.1).trans h68o.2) | (have hn0 : ¬ ∃ x, e = .ok x ∧ ptk x = 257 := fun z => absurd (h139.2.2.2.2 z) (by omega); refine at_fail ⟨?_, h139.2.1⟩ (fun x hx => one_no ?_); have hh := h139.1; (cases e with | error p => exact hh | ok y => exact (show mS B n t o (.error (pat y)) _ by have h2 : eb (.ok y) (fun x => if ptk x = 257 then Except.ok x else .error (pat x)) = .error (pat y) := if_neg (fun z => hn0 ⟨y, rfl, z⟩); rw [h2] at hh; exact hh)); have n5 := bz_f h5 (by omega); have n40 := bz_f h40 (by omega); have g5 : ptk x ≠ 45 := fun z => n5 ⟨x, hx, z⟩; have g40 : ptk x ≠ 40 := fun z => n40 ⟨x, hx, z⟩; have g7 : ptk x ≠ 257 := fun z => hn0 ⟨x, hx, z⟩; subst hx; have t1 := hS.tok.1; exact ⟨fun z => by have := t1 z; omega, g7, g5, g40⟩) | (refine at_fail ⟨h158.1, h158.2.1⟩ (fun x hx => one_no ?_); have n5 := bz_f h5 (by omega); have n40 := bz_f h40 (by omega); have g5 : ptk x ≠ 45 := fun z => n5 ⟨x, hx, z⟩; have g40 : ptk x ≠ 40 := fun z => n40 ⟨x, hx, z⟩; subst hx; have tk := hS.tok; have t1 := tk.1; have t2 := tk.2.1; have t4 := tk.2.2.2; clear tk; refine ⟨fun z => ?_, fun z => ?_, g5, g40⟩; have := t1 z; omega; have := t2 (by omega) (by omega); omega))
          · exfalso; omega
  · obtain ⟨x, rfl, hx1⟩ := bz_t h5 (by omega)
    have hWx := hW x rfl
    refine f_aload_n hZ dX7_atom_11 rfl ?_
    refine vX7_232 hZ dX7_atom_12 (t_X7_opens hS (by omega)) (fun a12 M12 r12 h12 => ?_)
    obtain ⟨h12f, h12⟩ := h12
    replace h12 := h12.resolve_left (fun z => by omega)
    have h12s := h12.2.2
    refine f_eq (tgt := 161) hZ dX7_atom_15 rfl (by first | omega | exact rg_of _) (fun h15 => ?_) (fun h15 => ?_)
    · exfalso; omega
    · refine f_aload_n hZ dX7_atom_18 rfl ?_
      refine vX7_236 hZ dX7_atom_19 (hO _ _ h12s (adv_we hWx (by omega))) (fun a19 M19 r19 h19 => ?_)
      refine f_ineg hZ dX7_atom_22 ?_
      refine f_wrap ?_
      refine f_istore_n (L' := [_, _]) hZ dX7_atom_23 rfl rfl ?_
      refine f_aload_n hZ dX7_atom_24 rfl ?_
      refine f_dup hZ dX7_atom_25 rfl ?_
      refine gX7_198 hZ dX7_atom_26 (fun r26 => ?_)
      refine f_iconst hZ dX7_atom_29 ?_
      refine f_isub hZ dX7_atom_30 ?_
      rw [show M19 59 27 - 1 = o by have := h19.1.1.2.1.1; omega]
      refine pX7_198 hZ dX7_atom_31 (by first | omega | exact rg_of _) ?_
      refine f_goto (tgt := 161) hZ dX7_atom_34 rfl ?_
      refine f_iload_n hZ dX7_atom_161 rfl ?_
      exact f_retI hZ hR dX7_atom_162 rfl (by first | omega | exact rg_of _) (by first | (exfalso; omega) | exact at_nw (c := 0) (Or.inl hx1) h117.1 h117.2 (by rw [if_pos hx1]; exact hx2) | exact at_nw (c := 0) (Or.inr hx1) h151.1 (h139.2.1.trans h151.2) (by rw [if_neg (by omega)]; exact h139.2.2.1 x rfl hx1) | exact at_minus hx1 h19 h12f (nmM_eq h12f) (by omega) | (have hop := h89; exact at_par hx1 hye hyk h89.1 (((h47f.trans h54.2.1).trans (hop0)).trans h89.2) (by rw [h54.2.2 y hye, nmM_eq h47f])) | exact at_parx hx1 (bz_f h61 (by omega)) (h68o.1) (((h47f.trans h54.2.1).trans h68.2.1).trans h68o.2) | (have hn0 : ¬ ∃ x, e = .ok x ∧ ptk x = 257 := fun z => absurd (h139.2.2.2.2 z) (by omega); refine at_fail ⟨?_, h139.2.1⟩ (fun x hx => one_no ?_); have hh := h139.1; (cases e with | error p => exact hh | ok y => exact (show mS B n t o (.error (pat y)) _ by have h2 : eb (.ok y) (fun x => if ptk x = 257 then Except.ok x else .error (pat x)) = .error (pat y) := if_neg (fun z => hn0 ⟨y, rfl, z⟩); rw [h2] at hh; exact hh)); have n5 := bz_f h5 (by omega); have n40 := bz_f h40 (by omega); have g5 : ptk x ≠ 45 := fun z => n5 ⟨x, hx, z⟩; have g40 : ptk x ≠ 40 := fun z => n40 ⟨x, hx, z⟩; have g7 : ptk x ≠ 257 := fun z => hn0 ⟨x, hx, z⟩; subst hx; have t1 := hS.tok.1; exact ⟨fun z => by have := t1 z; omega, g7, g5, g40⟩) | (refine at_fail ⟨h158.1, h158.2.1⟩ (fun x hx => one_no ?_); have n5 := bz_f h5 (by omega); have n40 := bz_f h40 (by omega); have g5 : ptk x ≠ 45 := fun z => n5 ⟨x, hx, z⟩; have g40 : ptk x ≠ 40 := fun z => n40 ⟨x, hx, z⟩; subst hx; have tk := hS.tok; have t1 := tk.1; have t2 := tk.2.1; have t4 := tk.2.2.2; clear tk; refine ⟨fun z => ?_, fun z => ?_, g5, g40⟩; have := t1 z; omega; have := t2 (by omega) (by omega); omega))

