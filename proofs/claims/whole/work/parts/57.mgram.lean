/-! loops of the model's grammar -/
section Lp
variable {B : Int → Int} {n t o c : Int} {f : pT → pE} {op : Int → Int} {e e1 : pE} {M N K : fM} {r v : Int} {x : pT}
/-- nothing more to join -/
theorem lp_fin {F : pT → pE} {m : Nat} (heq : eb e1 (lp B n f op m) = eb e F) (hR : mS B n t o e1 N) (hF : mF M N) (hv : ∀ x, e1 = .ok x → v = pv x (nmM M) ∧ n - pat x ≤ m) (hno : ∀ x, e1 = .ok x → op (ptk x) = 0) : AQ B n t o F e M v N := by
  have hid : eb e1 (lp B n f op m) = e1 := eb_id (fun x hx => lp_stop (hno x hx))
  rw [hid] at heq
  exact ⟨by rw [← heq]; exact hR, hF, fun z hz => by rw [← heq] at hz; exact (hv z hz).1⟩
/-- one more is joined -/
theorem lp_more {F : pT → pE} {m : Nat} (hf : Gd n f) (hW : WfX n x) (hc : op (ptk x) = c) (hc0 : c ≠ 0) (ht : ptk x ≠ 258) (heq : eb (.ok x) (lp B n f op (m + 1)) = eb e F) (hv : v = pv x (nmM M) ∧ n - pat x ≤ ((m + 1 : Nat) : Int)) (hA : mF M N) (hB : AQ B n t o f (adv B n x) N r K) (hr : ∀ a b : Int, a = v → b = r → binZ c a b = binZ c v r) : mS B n t o (bn1 B n f c x) K ∧ WE n (bn1 B n f c x) ∧ (∀ y, bn1 B n f c x = .ok y → binZ c v r = pv y (nmM M) ∧ n - pat y ≤ m) ∧ mF M K ∧ eb (bn1 B n f c x) (lp B n f op m) = eb e F := by
  refine ⟨mS.emt hB.1, bn1_we hf hW ht, fun y hy => ?_, hA.trans hB.2.1, by rw [← heq]; exact (lp_go hc hc0).symm⟩
  obtain ⟨z, g1, g2, g3, g4⟩ := bn1_val hf hW ht hy
  have h2 := hB.2.2 z g1
  rw [nmM_eq hA] at h2
  refine ⟨by rw [g4, ← h2, hv.1], ?_⟩
  have := hv.2
  omega
end Lp
theorem mS.wv {B : Int → Int} {n t o : Int} {e : pE} {M : fM} {x : pT} (h : mS B n t o e M) (hx : e = .ok x) (hk : 260 ≤ ptk x) : pvl x = -1 := by
  subst hx
  obtain ⟨_, c1, c2, c3, c4, c5⟩ := h
  rcases c4 with y | y | y | y | y
  · omega
  · omega
  · have := wcl_rg (B := B) (a := pat x) (x := M 59 23)
    rw [y.2.1] at this
    have h2 : (ptk x = 257 ∧ 0 ≤ pvl x ∧ pvl x ≤ 5) ∨ (259 ≤ ptk x ∧ ptk x ≤ 265 ∧ pvl x = -1) := this
    omega
  · have := y.1; omega
  · omega
set_option maxRecDepth 20000 in
set_option maxHeartbeats 4000000 in
theorem t_X7_term {X : fX} {B : Int → Int} {n t : Int} {d : Nat} {o : Int} {f : pT → pE} (hf : Gd n f) (hO : MC B n t X (d + 10) mX7_atom o f) : MC B n t X (d + 11) mX7_term o (trmF B n f) := by
  intro M e hS hW
  have hn := hS.1.1.2.1.2
  refine fC.of (L := [_, _]) (by decide +kernel) rfl (Nat.le_of_ble_eq_true rfl) (fun Z hZ hR => ?_)
  have loop : ∀ (m : Nat) (N : fM) (e1 : pE) (v : Int), rg v → mS B n t o e1 N → WE n e1 → (∀ x, e1 = .ok x → v = pv x (nmM M) ∧ n - pat x ≤ m) → mF M N → eb e1 (lp B n f op3 m) = eb e (trmF B n f) → fG X mX7_term Z 5 [.ref (xa X 59), .int (iv v)] [] N := by
    intro m
    induction m with
    | zero =>
      intro N e1 v hrv hR0 hW0 hv hF0 heq
      refine f_aload_n hZ dX7_term_5 rfl ?_
      refine f_bipush hZ dX7_term_6 ?_
      refine vX7_229 hZ dX7_term_8 (t_X7_isSign (by omega) hR0) (fun a8 M8 r8 h8 => ?_)
      obtain ⟨e8, h8⟩ := h8
      replace e8 := e8.symm
      subst e8
      replace h8 : hz a8 _ := h8
      refine f_eq (tgt := 28) hZ dX7_term_11 rfl (by omega) (fun h11 => ?_) (fun h11 => ?_)
      · refine f_iload_n hZ dX7_term_28 rfl ?_
        exact f_retI hZ hR dX7_term_29 rfl (by omega) (by exact lp_fin heq hR0 hF0 hv (fun x hx => by have n8 := hz_f h8 (by omega); have g8 : ptk x ≠ 42 := fun z => n8 ⟨x, hx, z⟩; unfold op3; rw [if_neg g8]))
      · exfalso
        first
          | (have hnz : ¬ a8 = 0 := by omega
             obtain ⟨x, rfl, hx1⟩ := hz_t h8 hnz
             have hWx := hW0 x rfl
             have g1 := hWx.2.2.1 (by omega)
             have g2 := (hv x rfl).2
             omega)
    | succ m ih =>
      intro N e1 v hrv hR0 hW0 hv hF0 heq
      refine f_aload_n hZ dX7_term_5 rfl ?_
      refine f_bipush hZ dX7_term_6 ?_
      refine vX7_229 hZ dX7_term_8 (t_X7_isSign (by omega) hR0) (fun a8 M8 r8 h8 => ?_)
      obtain ⟨e8, h8⟩ := h8
      replace e8 := e8.symm
      subst e8
      replace h8 : hz a8 _ := h8
      refine f_eq (tgt := 28) hZ dX7_term_11 rfl (by omega) (fun h11 => ?_) (fun h11 => ?_)
      · refine f_iload_n hZ dX7_term_28 rfl ?_
        exact f_retI hZ hR dX7_term_29 rfl (by omega) (by exact lp_fin heq hR0 hF0 hv (fun x hx => by have n8 := hz_f h8 (by omega); have g8 : ptk x ≠ 42 := fun z => n8 ⟨x, hx, z⟩; unfold op3; rw [if_neg g8]))
      · obtain ⟨x, hxe, hx1⟩ : ∃ x, e1 = .ok x ∧ (ptk x = 42) := by
          first
            | (have hnz : ¬ a8 = 0 := by omega
               obtain ⟨x, z1, z2⟩ := hz_t h8 hnz
               exact ⟨x, z1, by omega⟩)
        subst hxe
        have hRx := hR0
        have hWx := hW0 x rfl
        have hx2 : ptk x ≠ 258 := by omega
        refine f_aload_n hZ dX7_term_14 rfl ?_
        refine vX7_204 hZ dX7_term_15 (c_next hRx hx2) (fun M15 h15 => ?_)
        have hA := h15
        refine f_iload_n hZ dX7_term_18 rfl ?_
        refine f_aload_n hZ dX7_term_19 rfl ?_
        refine vX7_236 hZ dX7_term_20 (hO _ _ hA.1 (adv_we hWx hx2)) (fun a20 M20 r20 h20 => ?_)
        have hB := h20
        refine f_imul hZ dX7_term_23 ?_
        refine f_wrap ?_
        refine f_istore_n (L' := [_, _]) hZ dX7_term_24 rfl rfl ?_
        refine f_goto (tgt := 5) hZ dX7_term_25 rfl ?_
        have hm := lp_more (c := -3) hf hWx (by unfold op3; rw [if_pos (by omega)]) (by decide) hx2 heq (hv x rfl) (hF0.trans hA.2) hB (fun a b h1 h2 => by rw [h1, h2])
        rw [bz3] at hm
        exact ih _ _ _ (rg_of _) hm.1 hm.2.1 hm.2.2.1 hm.2.2.2.1 hm.2.2.2.2
  refine f_aload_n hZ dX7_term_0 rfl ?_
  refine vX7_236 hZ dX7_term_1 (hO M e hS hW) (fun a1 M1 r1 h1 => ?_)
  refine f_istore_n (L' := [_, _]) hZ dX7_term_4 rfl rfl ?_
  exact loop 160 _ _ _ r1 h1.1 (we_eb hf hW) (fun x hx => ⟨h1.2.2 x hx, by have := (we_eb hf hW x hx).1; omega⟩) h1.2.1 eb_assoc

set_option maxRecDepth 20000 in
set_option maxHeartbeats 4000000 in
theorem t_X7_added {X : fX} {B : Int → Int} {n t : Int} {d : Nat} {o : Int} {f : pT → pE} (hf : Gd n f) (hO : MC B n t X (d + 11) mX7_term o f) : MC B n t X (d + 12) mX7_added o (lpF B n op2 f) := by
  intro M e hS hW
  have hn := hS.1.1.2.1.2
  refine fC.of (L := [_, _, _, _]) (by decide +kernel) rfl (Nat.le_of_ble_eq_true rfl) (fun Z hZ hR => ?_)
  have loop : ∀ (m : Nat) (N : fM) (e1 : pE) (v : Int), rg v → mS B n t o e1 N → WE n e1 → (∀ x, e1 = .ok x → v = pv x (nmM M) ∧ n - pat x ≤ m) → mF M N → eb e1 (lp B n f op2 m) = eb e (lpF B n op2 f) → fG X mX7_added Z 5 [.ref (xa X 59), .int (iv v), .null, .null] [] N := by
    intro m
    induction m with
    | zero =>
      intro N e1 v hrv hR0 hW0 hv hF0 heq
      refine f_aload_n hZ dX7_added_5 rfl ?_
      refine f_bipush hZ dX7_added_6 ?_
      refine vX7_229 hZ dX7_added_8 (t_X7_isSign (by omega) hR0) (fun a8 M8 r8 h8 => ?_)
      obtain ⟨e8, h8⟩ := h8
      replace e8 := e8.symm
      subst e8
      replace h8 : hz a8 _ := h8
      refine f_ne (tgt := 23) hZ dX7_added_11 rfl (by omega) (fun h11 => ?_) (fun h11 => ?_)
      · exfalso
        first
          | (have hnz : ¬ a8 = 0 := by omega
             obtain ⟨x, rfl, hx1⟩ := hz_t h8 hnz
             have hWx := hW0 x rfl
             have g1 := hWx.2.2.1 (by omega)
             have g2 := (hv x rfl).2
             omega)
          | (have hnz : ¬ a17 = 0 := by omega
             obtain ⟨x, rfl, hx1⟩ := hz_t h17 hnz
             have hWx := hW0 x rfl
             have g1 := hWx.2.2.1 (by omega)
             have g2 := (hv x rfl).2
             omega)
      · refine f_aload_n hZ dX7_added_14 rfl ?_
        refine f_bipush hZ dX7_added_15 ?_
        refine vX7_229 hZ dX7_added_17 (t_X7_isSign (by omega) hR0) (fun a17 M17 r17 h17 => ?_)
        obtain ⟨e17, h17⟩ := h17
        replace e17 := e17.symm
        subst e17
        replace h17 : hz a17 _ := h17
        refine f_eq (tgt := 66) hZ dX7_added_20 rfl (by omega) (fun h20 => ?_) (fun h20 => ?_)
        · refine f_iload_n hZ dX7_added_66 rfl ?_
          exact f_retI hZ hR dX7_added_67 rfl (by omega) (by exact lp_fin heq hR0 hF0 hv (fun x hx => by have n8 := hz_f h8 (by omega); have n17 := hz_f h17 (by omega); have g8 : ptk x ≠ 43 := fun z => n8 ⟨x, hx, z⟩; have g17 : ptk x ≠ 45 := fun z => n17 ⟨x, hx, z⟩; unfold op2; rw [if_neg g8, if_neg g17]))
        · exfalso
          first
            | (have hnz : ¬ a8 = 0 := by omega
               obtain ⟨x, rfl, hx1⟩ := hz_t h8 hnz
               have hWx := hW0 x rfl
               have g1 := hWx.2.2.1 (by omega)
               have g2 := (hv x rfl).2
               omega)
            | (have hnz : ¬ a17 = 0 := by omega
               obtain ⟨x, rfl, hx1⟩ := hz_t h17 hnz
               have hWx := hW0 x rfl
               have g1 := hWx.2.2.1 (by omega)
               have g2 := (hv x rfl).2
               omega)
    | succ m ih =>
      intro N e1 v hrv hR0 hW0 hv hF0 heq
      refine f_aload_n hZ dX7_added_5 rfl ?_
      refine f_bipush hZ dX7_added_6 ?_
      refine vX7_229 hZ dX7_added_8 (t_X7_isSign (by omega) hR0) (fun a8 M8 r8 h8 => ?_)
      obtain ⟨e8, h8⟩ := h8
      replace e8 := e8.symm
      subst e8
      replace h8 : hz a8 _ := h8
      refine f_ne (tgt := 23) hZ dX7_added_11 rfl (by omega) (fun h11 => ?_) (fun h11 => ?_)
      · obtain ⟨x, hxe, hx1⟩ : ∃ x, e1 = .ok x ∧ (ptk x = 43 ∨ ptk x = 45) := by
          first
            | (have hnz : ¬ a8 = 0 := by omega
               obtain ⟨x, z1, z2⟩ := hz_t h8 hnz
               exact ⟨x, z1, by omega⟩)
            | (have hnz : ¬ a17 = 0 := by omega
               obtain ⟨x, z1, z2⟩ := hz_t h17 hnz
               exact ⟨x, z1, by omega⟩)
        subst hxe
        have hRx := hR0
        have hWx := hW0 x rfl
        have hx2 : ptk x ≠ 258 := by omega
        have hsg := (hRx.sg (s := ptk x) (by omega)).mpr ⟨x, rfl, rfl⟩
        have h26 := hsg.2.2
        refine f_aload_n hZ dX7_added_23 rfl ?_
        refine gX7_181 hZ dX7_added_24 (fun r24 => ?_)
        refine f_ldc2 (v := (43 : Int64)) hZ (43) dX7_added_27 (tb_in 1112 (by decide +kernel) (by decide +kernel)) (by decide) ?_
        refine f_lcmp hZ dX7_added_30 (by omega) (by omega) ?_
        refine f_ne (tgt := 38) hZ dX7_added_31 rfl (rg_cmpJ _ _) (fun h31 => ?_) (fun h31 => ?_)
        · simp only [cmpJ_lt, cmpJ_gt, cmpJ_eq, cmpJ_ge, cmpJ_le] at h31
          refine f_iconst hZ dX7_added_38 ?_
          refine f_istore_n (L' := [_, _, _, _]) hZ dX7_added_39 rfl rfl ?_
          refine f_aload_n hZ dX7_added_40 rfl ?_
          refine vX7_204 hZ dX7_added_41 (c_next hRx hx2) (fun M41 h41 => ?_)
          have hA := h41
          refine f_aload_n hZ dX7_added_44 rfl ?_
          refine vX7_246 hZ dX7_added_45 (hO _ _ hA.1 (adv_we hWx hx2)) (fun a45 M45 r45 h45 => ?_)
          have hB := h45
          refine f_istore_n (L' := [_, _, _, _]) hZ dX7_added_48 rfl rfl ?_
          refine f_iload_n hZ dX7_added_49 rfl ?_
          refine f_eq (tgt := 59) hZ dX7_added_50 rfl (by omega) (fun h50 => ?_) (fun h50 => ?_)
          · refine f_iload_n hZ dX7_added_59 rfl ?_
            refine f_iload_n hZ dX7_added_60 rfl ?_
            refine f_isub hZ dX7_added_61 ?_
            refine f_wrap ?_
            refine f_istore_n (L' := [_, _, _, _]) hZ dX7_added_62 rfl rfl ?_
            refine f_goto (tgt := 5) hZ dX7_added_63 rfl ?_
            refine f_forget (L' := [_, _, .null, .null]) ⟨Or.inl rfl, Or.inl rfl, Or.inr rfl, Or.inr rfl, trivial⟩ ?_
            first
              | (exfalso; omega)
              | (have hq : ptk x = 43 := by omega
                 have hm := lp_more (c := -1) hf hWx (by unfold op2; first | rw [if_pos (by omega)] | rw [if_neg (by omega), if_pos (by omega)]) (by decide) hx2 heq (hv x rfl) (hF0.trans hA.2) hB (fun a b h1 h2 => by rw [h1, h2])
                 rw [bz1] at hm
                 exact ih _ _ _ (rg_of _) hm.1 hm.2.1 hm.2.2.1 hm.2.2.2.1 hm.2.2.2.2)
              | (have hq : ptk x = 45 := by omega
                 have hm := lp_more (c := -2) hf hWx (by unfold op2; first | rw [if_pos (by omega)] | rw [if_neg (by omega), if_pos (by omega)]) (by decide) hx2 heq (hv x rfl) (hF0.trans hA.2) hB (fun a b h1 h2 => by rw [h1, h2])
                 rw [bz2] at hm
                 exact ih _ _ _ (rg_of _) hm.1 hm.2.1 hm.2.2.1 hm.2.2.2.1 hm.2.2.2.2)
          · exfalso; omega
        · simp only [cmpJ_lt, cmpJ_gt, cmpJ_eq, cmpJ_ge, cmpJ_le] at h31
          refine f_iconst hZ dX7_added_34 ?_
          refine f_goto (tgt := 39) hZ dX7_added_35 rfl ?_
          refine f_istore_n (L' := [_, _, _, _]) hZ dX7_added_39 rfl rfl ?_
          refine f_aload_n hZ dX7_added_40 rfl ?_
          refine vX7_204 hZ dX7_added_41 (c_next hRx hx2) (fun M41 h41 => ?_)
          have hA := h41
          refine f_aload_n hZ dX7_added_44 rfl ?_
          refine vX7_246 hZ dX7_added_45 (hO _ _ hA.1 (adv_we hWx hx2)) (fun a45 M45 r45 h45 => ?_)
          have hB := h45
          refine f_istore_n (L' := [_, _, _, _]) hZ dX7_added_48 rfl rfl ?_
          refine f_iload_n hZ dX7_added_49 rfl ?_
          refine f_eq (tgt := 59) hZ dX7_added_50 rfl (by omega) (fun h50 => ?_) (fun h50 => ?_)
          · exfalso; omega
          · refine f_iload_n hZ dX7_added_53 rfl ?_
            refine f_iload_n hZ dX7_added_54 rfl ?_
            refine f_iadd hZ dX7_added_55 ?_
            refine f_goto (tgt := 62) hZ dX7_added_56 rfl ?_
            refine f_wrap ?_
            refine f_istore_n (L' := [_, _, _, _]) hZ dX7_added_62 rfl rfl ?_
            refine f_goto (tgt := 5) hZ dX7_added_63 rfl ?_
            refine f_forget (L' := [_, _, .null, .null]) ⟨Or.inl rfl, Or.inl rfl, Or.inr rfl, Or.inr rfl, trivial⟩ ?_
            first
              | (exfalso; omega)
              | (have hq : ptk x = 43 := by omega
                 have hm := lp_more (c := -1) hf hWx (by unfold op2; first | rw [if_pos (by omega)] | rw [if_neg (by omega), if_pos (by omega)]) (by decide) hx2 heq (hv x rfl) (hF0.trans hA.2) hB (fun a b h1 h2 => by rw [h1, h2])
                 rw [bz1] at hm
                 exact ih _ _ _ (rg_of _) hm.1 hm.2.1 hm.2.2.1 hm.2.2.2.1 hm.2.2.2.2)
              | (have hq : ptk x = 45 := by omega
                 have hm := lp_more (c := -2) hf hWx (by unfold op2; first | rw [if_pos (by omega)] | rw [if_neg (by omega), if_pos (by omega)]) (by decide) hx2 heq (hv x rfl) (hF0.trans hA.2) hB (fun a b h1 h2 => by rw [h1, h2])
                 rw [bz2] at hm
                 exact ih _ _ _ (rg_of _) hm.1 hm.2.1 hm.2.2.1 hm.2.2.2.1 hm.2.2.2.2)
      · refine f_aload_n hZ dX7_added_14 rfl ?_
        refine f_bipush hZ dX7_added_15 ?_
        refine vX7_229 hZ dX7_added_17 (t_X7_isSign (by omega) hR0) (fun a17 M17 r17 h17 => ?_)
        obtain ⟨e17, h17⟩ := h17
        replace e17 := e17.symm
        subst e17
        replace h17 : hz a17 _ := h17
        refine f_eq (tgt := 66) hZ dX7_added_20 rfl (by omega) (fun h20 => ?_) (fun h20 => ?_)
        · refine f_iload_n hZ dX7_added_66 rfl ?_
          exact f_retI hZ hR dX7_added_67 rfl (by omega) (by exact lp_fin heq hR0 hF0 hv (fun x hx => by have n8 := hz_f h8 (by omega); have n17 := hz_f h17 (by omega); have g8 : ptk x ≠ 43 := fun z => n8 ⟨x, hx, z⟩; have g17 : ptk x ≠ 45 := fun z => n17 ⟨x, hx, z⟩; unfold op2; rw [if_neg g8, if_neg g17]))
        · obtain ⟨x, hxe, hx1⟩ : ∃ x, e1 = .ok x ∧ (ptk x = 43 ∨ ptk x = 45) := by
            first
              | (have hnz : ¬ a8 = 0 := by omega
                 obtain ⟨x, z1, z2⟩ := hz_t h8 hnz
                 exact ⟨x, z1, by omega⟩)
              | (have hnz : ¬ a17 = 0 := by omega
                 obtain ⟨x, z1, z2⟩ := hz_t h17 hnz
                 exact ⟨x, z1, by omega⟩)
          subst hxe
          have hRx := hR0
          have hWx := hW0 x rfl
          have hx2 : ptk x ≠ 258 := by omega
          have hsg := (hRx.sg (s := ptk x) (by omega)).mpr ⟨x, rfl, rfl⟩
          have h26 := hsg.2.2
          refine f_aload_n hZ dX7_added_23 rfl ?_
          refine gX7_181 hZ dX7_added_24 (fun r24 => ?_)
          refine f_ldc2 (v := (43 : Int64)) hZ (43) dX7_added_27 (tb_in 1112 (by decide +kernel) (by decide +kernel)) (by decide) ?_
          refine f_lcmp hZ dX7_added_30 (by omega) (by omega) ?_
          refine f_ne (tgt := 38) hZ dX7_added_31 rfl (rg_cmpJ _ _) (fun h31 => ?_) (fun h31 => ?_)
          · simp only [cmpJ_lt, cmpJ_gt, cmpJ_eq, cmpJ_ge, cmpJ_le] at h31
            refine f_iconst hZ dX7_added_38 ?_
            refine f_istore_n (L' := [_, _, _, _]) hZ dX7_added_39 rfl rfl ?_
            refine f_aload_n hZ dX7_added_40 rfl ?_
            refine vX7_204 hZ dX7_added_41 (c_next hRx hx2) (fun M41 h41 => ?_)
            have hA := h41
            refine f_aload_n hZ dX7_added_44 rfl ?_
            refine vX7_246 hZ dX7_added_45 (hO _ _ hA.1 (adv_we hWx hx2)) (fun a45 M45 r45 h45 => ?_)
            have hB := h45
            refine f_istore_n (L' := [_, _, _, _]) hZ dX7_added_48 rfl rfl ?_
            refine f_iload_n hZ dX7_added_49 rfl ?_
            refine f_eq (tgt := 59) hZ dX7_added_50 rfl (by omega) (fun h50 => ?_) (fun h50 => ?_)
            · refine f_iload_n hZ dX7_added_59 rfl ?_
              refine f_iload_n hZ dX7_added_60 rfl ?_
              refine f_isub hZ dX7_added_61 ?_
              refine f_wrap ?_
              refine f_istore_n (L' := [_, _, _, _]) hZ dX7_added_62 rfl rfl ?_
              refine f_goto (tgt := 5) hZ dX7_added_63 rfl ?_
              refine f_forget (L' := [_, _, .null, .null]) ⟨Or.inl rfl, Or.inl rfl, Or.inr rfl, Or.inr rfl, trivial⟩ ?_
              first
                | (exfalso; omega)
                | (have hq : ptk x = 43 := by omega
                   have hm := lp_more (c := -1) hf hWx (by unfold op2; first | rw [if_pos (by omega)] | rw [if_neg (by omega), if_pos (by omega)]) (by decide) hx2 heq (hv x rfl) (hF0.trans hA.2) hB (fun a b h1 h2 => by rw [h1, h2])
                   rw [bz1] at hm
                   exact ih _ _ _ (rg_of _) hm.1 hm.2.1 hm.2.2.1 hm.2.2.2.1 hm.2.2.2.2)
                | (have hq : ptk x = 45 := by omega
                   have hm := lp_more (c := -2) hf hWx (by unfold op2; first | rw [if_pos (by omega)] | rw [if_neg (by omega), if_pos (by omega)]) (by decide) hx2 heq (hv x rfl) (hF0.trans hA.2) hB (fun a b h1 h2 => by rw [h1, h2])
                   rw [bz2] at hm
                   exact ih _ _ _ (rg_of _) hm.1 hm.2.1 hm.2.2.1 hm.2.2.2.1 hm.2.2.2.2)
            · exfalso; omega
          · simp only [cmpJ_lt, cmpJ_gt, cmpJ_eq, cmpJ_ge, cmpJ_le] at h31
            refine f_iconst hZ dX7_added_34 ?_
            refine f_goto (tgt := 39) hZ dX7_added_35 rfl ?_
            refine f_istore_n (L' := [_, _, _, _]) hZ dX7_added_39 rfl rfl ?_
            refine f_aload_n hZ dX7_added_40 rfl ?_
            refine vX7_204 hZ dX7_added_41 (c_next hRx hx2) (fun M41 h41 => ?_)
            have hA := h41
            refine f_aload_n hZ dX7_added_44 rfl ?_
            refine vX7_246 hZ dX7_added_45 (hO _ _ hA.1 (adv_we hWx hx2)) (fun a45 M45 r45 h45 => ?_)
            have hB := h45
            refine f_istore_n (L' := [_, _, _, _]) hZ dX7_added_48 rfl rfl ?_
            refine f_iload_n hZ dX7_added_49 rfl ?_
            refine f_eq (tgt := 59) hZ dX7_added_50 rfl (by omega) (fun h50 => ?_) (fun h50 => ?_)
            · exfalso; omega
            · refine f_iload_n hZ dX7_added_53 rfl ?_
              refine f_iload_n hZ dX7_added_54 rfl ?_
              refine f_iadd hZ dX7_added_55 ?_
              refine f_goto (tgt := 62) hZ dX7_added_56 rfl ?_
              refine f_wrap ?_
              refine f_istore_n (L' := [_, _, _, _]) hZ dX7_added_62 rfl rfl ?_
              refine f_goto (tgt := 5) hZ dX7_added_63 rfl ?_
              refine f_forget (L' := [_, _, .null, .null]) ⟨Or.inl rfl, Or.inl rfl, Or.inr rfl, Or.inr rfl, trivial⟩ ?_
              first
                | (exfalso; omega)
                | (have hq : ptk x = 43 := by omega
                   have hm := lp_more (c := -1) hf hWx (by unfold op2; first | rw [if_pos (by omega)] | rw [if_neg (by omega), if_pos (by omega)]) (by decide) hx2 heq (hv x rfl) (hF0.trans hA.2) hB (fun a b h1 h2 => by rw [h1, h2])
                   rw [bz1] at hm
                   exact ih _ _ _ (rg_of _) hm.1 hm.2.1 hm.2.2.1 hm.2.2.2.1 hm.2.2.2.2)
                | (have hq : ptk x = 45 := by omega
                   have hm := lp_more (c := -2) hf hWx (by unfold op2; first | rw [if_pos (by omega)] | rw [if_neg (by omega), if_pos (by omega)]) (by decide) hx2 heq (hv x rfl) (hF0.trans hA.2) hB (fun a b h1 h2 => by rw [h1, h2])
                   rw [bz2] at hm
                   exact ih _ _ _ (rg_of _) hm.1 hm.2.1 hm.2.2.1 hm.2.2.2.1 hm.2.2.2.2)
  refine f_aload_n hZ dX7_added_0 rfl ?_
  refine vX7_246 hZ dX7_added_1 (hO M e hS hW) (fun a1 M1 r1 h1 => ?_)
  refine f_istore_n (L' := [_, _, _, _]) hZ dX7_added_4 rfl rfl ?_
  exact loop 160 _ _ _ r1 h1.1 (we_eb hf hW) (fun x hx => ⟨h1.2.2 x hx, by have := (we_eb hf hW x hx).1; omega⟩) h1.2.1 eb_assoc

set_option maxRecDepth 20000 in
set_option maxHeartbeats 4000000 in
theorem t_X7_both {X : fX} {B : Int → Int} {n t : Int} {d : Nat} {o : Int} {f : pT → pE} (hf : Gd n f) (hO : MC B n t X (d + 13) mX7_not o f) : MC B n t X (d + 14) mX7_both o (bthF B n f) := by
  intro M e hS hW
  have hn := hS.1.1.2.1.2
  refine fC.of (L := [_, _, _]) (by decide +kernel) rfl (Nat.le_of_ble_eq_true rfl) (fun Z hZ hR => ?_)
  have loop : ∀ (m : Nat) (N : fM) (e1 : pE) (v : Int), rg v → mS B n t o e1 N → WE n e1 → (∀ x, e1 = .ok x → v = pv x (nmM M) ∧ n - pat x ≤ m) → mF M N → eb e1 (lp B n f op6 m) = eb e (bthF B n f) → fG X mX7_both Z 5 [.ref (xa X 59), .int (iv v), .null] [] N := by
    intro m
    induction m with
    | zero =>
      intro N e1 v hrv hR0 hW0 hv hF0 heq
      refine f_aload_n hZ dX7_both_5 rfl ?_
      refine f_bipush hZ dX7_both_6 ?_
      refine f_bipush hZ dX7_both_8 ?_
      refine f_bipush hZ dX7_both_10 ?_
      refine f_iconst hZ dX7_both_12 ?_
      refine f_iconst hZ dX7_both_13 ?_
      refine f_iconst hZ dX7_both_14 ?_
      refine f_iconst hZ dX7_both_15 ?_
      refine f_iconst hZ dX7_both_16 ?_
      refine vX7_207 hZ dX7_both_17 (t_w10 hR0) (fun a17 M17 r17 h17 => ?_)
      obtain ⟨e17, h17⟩ := h17
      replace e17 := e17.symm
      subst e17
      replace h17 : hz a17 _ := h17
      refine f_eq (tgt := 49) hZ dX7_both_20 rfl (by omega) (fun h20 => ?_) (fun h20 => ?_)
      · refine f_iload_n hZ dX7_both_49 rfl ?_
        exact f_retI hZ hR dX7_both_50 rfl (by omega) (by exact lp_fin heq hR0 hF0 hv (fun x hx => by have n17 := hz_f h17 (by omega); unfold op6; exact if_neg (fun z => n17 ⟨x, hx, z, hR0.wv hx (by omega)⟩)))
      · exfalso
        first
          | (have hnz : ¬ a17 = 0 := by omega
             obtain ⟨x, rfl, hx1, _⟩ := hz_t h17 hnz
             have hWx := hW0 x rfl
             have g1 := hWx.2.2.1 (by omega)
             have g2 := (hv x rfl).2
             omega)
    | succ m ih =>
      intro N e1 v hrv hR0 hW0 hv hF0 heq
      refine f_aload_n hZ dX7_both_5 rfl ?_
      refine f_bipush hZ dX7_both_6 ?_
      refine f_bipush hZ dX7_both_8 ?_
      refine f_bipush hZ dX7_both_10 ?_
      refine f_iconst hZ dX7_both_12 ?_
      refine f_iconst hZ dX7_both_13 ?_
      refine f_iconst hZ dX7_both_14 ?_
      refine f_iconst hZ dX7_both_15 ?_
      refine f_iconst hZ dX7_both_16 ?_
      refine vX7_207 hZ dX7_both_17 (t_w10 hR0) (fun a17 M17 r17 h17 => ?_)
      obtain ⟨e17, h17⟩ := h17
      replace e17 := e17.symm
      subst e17
      replace h17 : hz a17 _ := h17
      refine f_eq (tgt := 49) hZ dX7_both_20 rfl (by omega) (fun h20 => ?_) (fun h20 => ?_)
      · refine f_iload_n hZ dX7_both_49 rfl ?_
        exact f_retI hZ hR dX7_both_50 rfl (by omega) (by exact lp_fin heq hR0 hF0 hv (fun x hx => by have n17 := hz_f h17 (by omega); unfold op6; exact if_neg (fun z => n17 ⟨x, hx, z, hR0.wv hx (by omega)⟩)))
      · obtain ⟨x, hxe, hx1⟩ : ∃ x, e1 = .ok x ∧ (ptk x = 264) := by
          first
            | (have hnz : ¬ a17 = 0 := by omega
               obtain ⟨x, z1, z2, _⟩ := hz_t h17 hnz
               exact ⟨x, z1, by omega⟩)
        subst hxe
        have hRx := hR0
        have hWx := hW0 x rfl
        have hx2 : ptk x ≠ 258 := by omega
        refine f_aload_n hZ dX7_both_23 rfl ?_
        refine vX7_204 hZ dX7_both_24 (c_next hRx hx2) (fun M24 h24 => ?_)
        have hA := h24
        refine f_aload_n hZ dX7_both_27 rfl ?_
        refine vX7_251 hZ dX7_both_28 (hO _ _ hA.1 (adv_we hWx hx2)) (fun a28 M28 r28 h28 => ?_)
        have hB := h28
        refine f_istore_n (L' := [_, _, _]) hZ dX7_both_31 rfl rfl ?_
        refine f_iload_n hZ dX7_both_32 rfl ?_
        refine f_eq (tgt := 44) hZ dX7_both_33 rfl (by omega) (fun h33 => ?_) (fun h33 => ?_)
        · refine f_iconst hZ dX7_both_44 ?_
          refine f_istore_n (L' := [_, _, _]) hZ dX7_both_45 rfl rfl ?_
          refine f_goto (tgt := 5) hZ dX7_both_46 rfl ?_
          refine f_forget (L' := [_, _, .null]) ⟨Or.inl rfl, Or.inl rfl, Or.inr rfl, trivial⟩ ?_
          have hm := lp_more (c := -6) hf hWx (by unfold op6; rw [if_pos (by omega)]) (by decide) hx2 heq (hv x rfl) (hF0.trans hA.2) hB (fun a b h1 h2 => by rw [h1, h2])
          rw [bz6, if_neg (by omega)] at hm
          exact ih _ _ _ (by omega) hm.1 hm.2.1 hm.2.2.1 hm.2.2.2.1 hm.2.2.2.2
        · refine f_iload_n hZ dX7_both_36 rfl ?_
          refine f_eq (tgt := 44) hZ dX7_both_37 rfl (by omega) (fun h37 => ?_) (fun h37 => ?_)
          · refine f_iconst hZ dX7_both_44 ?_
            refine f_istore_n (L' := [_, _, _]) hZ dX7_both_45 rfl rfl ?_
            refine f_goto (tgt := 5) hZ dX7_both_46 rfl ?_
            refine f_forget (L' := [_, _, .null]) ⟨Or.inl rfl, Or.inl rfl, Or.inr rfl, trivial⟩ ?_
            have hm := lp_more (c := -6) hf hWx (by unfold op6; rw [if_pos (by omega)]) (by decide) hx2 heq (hv x rfl) (hF0.trans hA.2) hB (fun a b h1 h2 => by rw [h1, h2])
            rw [bz6, if_neg (by omega)] at hm
            exact ih _ _ _ (by omega) hm.1 hm.2.1 hm.2.2.1 hm.2.2.2.1 hm.2.2.2.2
          · refine f_iconst hZ dX7_both_40 ?_
            refine f_goto (tgt := 45) hZ dX7_both_41 rfl ?_
            refine f_istore_n (L' := [_, _, _]) hZ dX7_both_45 rfl rfl ?_
            refine f_goto (tgt := 5) hZ dX7_both_46 rfl ?_
            refine f_forget (L' := [_, _, .null]) ⟨Or.inl rfl, Or.inl rfl, Or.inr rfl, trivial⟩ ?_
            have hm := lp_more (c := -6) hf hWx (by unfold op6; rw [if_pos (by omega)]) (by decide) hx2 heq (hv x rfl) (hF0.trans hA.2) hB (fun a b h1 h2 => by rw [h1, h2])
            rw [bz6, if_pos (by omega)] at hm
            exact ih _ _ _ (by omega) hm.1 hm.2.1 hm.2.2.1 hm.2.2.2.1 hm.2.2.2.2
  refine f_aload_n hZ dX7_both_0 rfl ?_
  refine vX7_251 hZ dX7_both_1 (hO M e hS hW) (fun a1 M1 r1 h1 => ?_)
  refine f_istore_n (L' := [_, _, _]) hZ dX7_both_4 rfl rfl ?_
  exact loop 160 _ _ _ r1 h1.1 (we_eb hf hW) (fun x hx => ⟨h1.2.2 x hx, by have := (we_eb hf hW x hx).1; omega⟩) h1.2.1 eb_assoc

set_option maxRecDepth 20000 in
set_option maxHeartbeats 4000000 in
theorem t_X7_either {X : fX} {B : Int → Int} {n t : Int} {d : Nat} {o : Int} {f : pT → pE} (hf : Gd n f) (hO : MC B n t X (d + 14) mX7_both o f) : MC B n t X (d + 15) mX7_either o (lpF B n op7 f) := by
  intro M e hS hW
  have hn := hS.1.1.2.1.2
  refine fC.of (L := [_, _, _]) (by decide +kernel) rfl (Nat.le_of_ble_eq_true rfl) (fun Z hZ hR => ?_)
  have loop : ∀ (m : Nat) (N : fM) (e1 : pE) (v : Int), rg v → mS B n t o e1 N → WE n e1 → (∀ x, e1 = .ok x → v = pv x (nmM M) ∧ n - pat x ≤ m) → mF M N → eb e1 (lp B n f op7 m) = eb e (lpF B n op7 f) → fG X mX7_either Z 5 [.ref (xa X 59), .int (iv v), .null] [] N := by
    intro m
    induction m with
    | zero =>
      intro N e1 v hrv hR0 hW0 hv hF0 heq
      refine f_aload_n hZ dX7_either_5 rfl ?_
      refine f_bipush hZ dX7_either_6 ?_
      refine f_bipush hZ dX7_either_8 ?_
      refine f_iconst hZ dX7_either_10 ?_
      refine f_iconst hZ dX7_either_11 ?_
      refine f_iconst hZ dX7_either_12 ?_
      refine f_iconst hZ dX7_either_13 ?_
      refine f_iconst hZ dX7_either_14 ?_
      refine f_iconst hZ dX7_either_15 ?_
      refine vX7_207 hZ dX7_either_16 (t_w9 hR0) (fun a16 M16 r16 h16 => ?_)
      obtain ⟨e16, h16⟩ := h16
      replace e16 := e16.symm
      subst e16
      replace h16 : hz a16 _ := h16
      refine f_eq (tgt := 48) hZ dX7_either_19 rfl (by omega) (fun h19 => ?_) (fun h19 => ?_)
      · refine f_iload_n hZ dX7_either_48 rfl ?_
        exact f_retI hZ hR dX7_either_49 rfl (by omega) (by exact lp_fin heq hR0 hF0 hv (fun x hx => by have n16 := hz_f h16 (by omega); unfold op7; exact if_neg (fun z => n16 ⟨x, hx, z, hR0.wv hx (by omega)⟩)))
      · exfalso
        first
          | (have hnz : ¬ a16 = 0 := by omega
             obtain ⟨x, rfl, hx1, _⟩ := hz_t h16 hnz
             have hWx := hW0 x rfl
             have g1 := hWx.2.2.1 (by omega)
             have g2 := (hv x rfl).2
             omega)
    | succ m ih =>
      intro N e1 v hrv hR0 hW0 hv hF0 heq
      refine f_aload_n hZ dX7_either_5 rfl ?_
      refine f_bipush hZ dX7_either_6 ?_
      refine f_bipush hZ dX7_either_8 ?_
      refine f_iconst hZ dX7_either_10 ?_
      refine f_iconst hZ dX7_either_11 ?_
      refine f_iconst hZ dX7_either_12 ?_
      refine f_iconst hZ dX7_either_13 ?_
      refine f_iconst hZ dX7_either_14 ?_
      refine f_iconst hZ dX7_either_15 ?_
      refine vX7_207 hZ dX7_either_16 (t_w9 hR0) (fun a16 M16 r16 h16 => ?_)
      obtain ⟨e16, h16⟩ := h16
      replace e16 := e16.symm
      subst e16
      replace h16 : hz a16 _ := h16
      refine f_eq (tgt := 48) hZ dX7_either_19 rfl (by omega) (fun h19 => ?_) (fun h19 => ?_)
      · refine f_iload_n hZ dX7_either_48 rfl ?_
        exact f_retI hZ hR dX7_either_49 rfl (by omega) (by exact lp_fin heq hR0 hF0 hv (fun x hx => by have n16 := hz_f h16 (by omega); unfold op7; exact if_neg (fun z => n16 ⟨x, hx, z, hR0.wv hx (by omega)⟩)))
      · obtain ⟨x, hxe, hx1⟩ : ∃ x, e1 = .ok x ∧ (ptk x = 263) := by
          first
            | (have hnz : ¬ a16 = 0 := by omega
               obtain ⟨x, z1, z2, _⟩ := hz_t h16 hnz
               exact ⟨x, z1, by omega⟩)
        subst hxe
        have hRx := hR0
        have hWx := hW0 x rfl
        have hx2 : ptk x ≠ 258 := by omega
        refine f_aload_n hZ dX7_either_22 rfl ?_
        refine vX7_204 hZ dX7_either_23 (c_next hRx hx2) (fun M23 h23 => ?_)
        have hA := h23
        refine f_aload_n hZ dX7_either_26 rfl ?_
        refine vX7_259 hZ dX7_either_27 (hO _ _ hA.1 (adv_we hWx hx2)) (fun a27 M27 r27 h27 => ?_)
        have hB := h27
        refine f_istore_n (L' := [_, _, _]) hZ dX7_either_30 rfl rfl ?_
        refine f_iload_n hZ dX7_either_31 rfl ?_
        refine f_ne (tgt := 39) hZ dX7_either_32 rfl (by omega) (fun h32 => ?_) (fun h32 => ?_)
        · refine f_iconst hZ dX7_either_39 ?_
          refine f_goto (tgt := 44) hZ dX7_either_40 rfl ?_
          refine f_istore_n (L' := [_, _, _]) hZ dX7_either_44 rfl rfl ?_
          refine f_goto (tgt := 5) hZ dX7_either_45 rfl ?_
          refine f_forget (L' := [_, _, .null]) ⟨Or.inl rfl, Or.inl rfl, Or.inr rfl, trivial⟩ ?_
          have hm := lp_more (c := -7) hf hWx (by unfold op7; rw [if_pos (by omega)]) (by decide) hx2 heq (hv x rfl) (hF0.trans hA.2) hB (fun a b h1 h2 => by rw [h1, h2])
          rw [bz7, if_pos (by omega)] at hm
          exact ih _ _ _ (by omega) hm.1 hm.2.1 hm.2.2.1 hm.2.2.2.1 hm.2.2.2.2
        · refine f_iload_n hZ dX7_either_35 rfl ?_
          refine f_eq (tgt := 43) hZ dX7_either_36 rfl (by omega) (fun h36 => ?_) (fun h36 => ?_)
          · refine f_iconst hZ dX7_either_43 ?_
            refine f_istore_n (L' := [_, _, _]) hZ dX7_either_44 rfl rfl ?_
            refine f_goto (tgt := 5) hZ dX7_either_45 rfl ?_
            refine f_forget (L' := [_, _, .null]) ⟨Or.inl rfl, Or.inl rfl, Or.inr rfl, trivial⟩ ?_
            have hm := lp_more (c := -7) hf hWx (by unfold op7; rw [if_pos (by omega)]) (by decide) hx2 heq (hv x rfl) (hF0.trans hA.2) hB (fun a b h1 h2 => by rw [h1, h2])
            rw [bz7, if_neg (by omega)] at hm
            exact ih _ _ _ (by omega) hm.1 hm.2.1 hm.2.2.1 hm.2.2.2.1 hm.2.2.2.2
          · refine f_iconst hZ dX7_either_39 ?_
            refine f_goto (tgt := 44) hZ dX7_either_40 rfl ?_
            refine f_istore_n (L' := [_, _, _]) hZ dX7_either_44 rfl rfl ?_
            refine f_goto (tgt := 5) hZ dX7_either_45 rfl ?_
            refine f_forget (L' := [_, _, .null]) ⟨Or.inl rfl, Or.inl rfl, Or.inr rfl, trivial⟩ ?_
            have hm := lp_more (c := -7) hf hWx (by unfold op7; rw [if_pos (by omega)]) (by decide) hx2 heq (hv x rfl) (hF0.trans hA.2) hB (fun a b h1 h2 => by rw [h1, h2])
            rw [bz7, if_pos (by omega)] at hm
            exact ih _ _ _ (by omega) hm.1 hm.2.1 hm.2.2.1 hm.2.2.2.1 hm.2.2.2.2
  refine f_aload_n hZ dX7_either_0 rfl ?_
  refine vX7_259 hZ dX7_either_1 (hO M e hS hW) (fun a1 M1 r1 h1 => ?_)
  refine f_istore_n (L' := [_, _, _]) hZ dX7_either_4 rfl rfl ?_
  exact loop 160 _ _ _ r1 h1.1 (we_eb hf hW) (fun x hx => ⟨h1.2.2 x hx, by have := (we_eb hf hW x hx).1; omega⟩) h1.2.1 eb_assoc

