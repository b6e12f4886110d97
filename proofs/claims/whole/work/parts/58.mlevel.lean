/-! the model's not; all levels -/
section Nt
variable {B : Int → Int} {n t o : Int} {e : pE} {M N N1 K : fM} {r v w : Int} {x : pT} {T g h : pT → pE}
theorem at_not (hx : ptk x = 265) (hK : AQ B n t (o + 1) h (adv B n x) N r K) (hF : mF M N) (ho : 0 ≤ o ∧ o ≤ 5) : AQ B n t o (negG B n T (un1 B n h (-8) notZ)) (.ok x) M (notZ r) (up K 59 27 o) := by
  obtain ⟨k1, k2, k3⟩ := hK
  have h1 : eb (.ok x) (negG B n T (un1 B n h (-8) notZ)) = un1 B n h (-8) notZ x := if_pos hx
  have hop := (mS.emt (c := -8) (w := fun z nm => notZ (pv z nm)) k1).opn ho
  refine ⟨?_, (hF.trans k2).trans hop.2, fun z hz => ?_⟩
  · rw [h1]; exact hop.1
  · rw [h1] at hz
    obtain ⟨y, g1, g2⟩ := eb_inv hz
    cases g2
    rw [k3 y g1, nmM_eq hF]; rfl
theorem neg_ne (hno : ¬ ∃ x, e = .ok x ∧ ptk x = 265) : eb e (negG B n T g) = eb (eb e T) (cmG B n T) := by
  rw [eb_assoc]
  cases e with
  | error p => rfl
  | ok x => exact if_neg (fun z => hno ⟨x, rfl, z⟩)
theorem at_cm0 (hno : ¬ ∃ x, e = .ok x ∧ ptk x = 265) (h : AQ B n t o T e M r K) (n0 : ¬ ∃ x, eb e T = .ok x ∧ ptk x = 60) (n1 : ¬ ∃ x, eb e T = .ok x ∧ ptk x = 61) : AQ B n t o (negG B n T g) e M r K := by
  obtain ⟨h1, h2, h3⟩ := h
  have hid : eb (eb e T) (cmG B n T) = eb e T := eb_id (fun x hx => by
    unfold cmG
    rw [if_neg (fun z => n0 ⟨x, hx, z⟩), if_neg (fun z => n1 ⟨x, hx, z⟩)])
  refine ⟨by rw [neg_ne hno, hid]; exact h1, h2, fun z hz => ?_⟩
  rw [neg_ne hno, hid] at hz
  exact h3 z hz
theorem at_cm {c : Int} (hno : ¬ ∃ x, e = .ok x ∧ ptk x = 265) (h : AQ B n t o T e M v N) (hx : eb e T = .ok x) (hc : cmG B n T x = bn1 B n T c x) (hA : mF N N1) (hB : AQ B n t o T (adv B n x) N1 w K) (hf : Gd n T) (hW : WfX n x) (ht : ptk x ≠ 258) : AQ B n t o (negG B n T g) e M (binZ c v w) K := by
  obtain ⟨h1, h2, h3⟩ := h
  have he : eb e (negG B n T g) = bn1 B n T c x := by rw [neg_ne hno, hx]; exact hc
  refine ⟨by rw [he]; exact mS.emt hB.1, (h2.trans hA).trans hB.2.1, fun z hz => ?_⟩
  rw [he] at hz
  obtain ⟨z1, g1, g2, g3, g4⟩ := bn1_val hf hW ht hz
  rw [g4, h3 x hx, hB.2.2 z1 g1, nmM_eq (h2.trans hA)]
end Nt
set_option maxRecDepth 20000 in
set_option maxHeartbeats 4000000 in
theorem t_X7_not_0 {X : fX} {B : Int → Int} {n t : Int} {d : Nat} {o : Int} (ho : o = 5) {T : pT → pE} (hf : Gd n T) (hT : MC B n t X (d + 12) mX7_added o T)  : MC B n t X (d + 13) mX7_not o (negG B n T (fun x => .error (pat x))) := by
  intro M e hS hW
  have hn := hS.1.1.2.1.2
  refine fC.of (L := [_, _, _, _]) (by decide +kernel) rfl (Nat.le_of_ble_eq_true rfl) (fun Z hZ hR => ?_)
  refine f_aload_n hZ dX7_not_0 rfl ?_
  refine f_bipush hZ dX7_not_1 ?_
  refine f_bipush hZ dX7_not_3 ?_
  refine f_bipush hZ dX7_not_5 ?_
  refine f_iconst hZ dX7_not_7 ?_
  refine f_iconst hZ dX7_not_8 ?_
  refine f_iconst hZ dX7_not_9 ?_
  refine f_iconst hZ dX7_not_10 ?_
  refine f_iconst hZ dX7_not_11 ?_
  refine vX7_207 hZ dX7_not_12 (t_w11 hS) (fun a12 M12 r12 h12 => ?_)
  obtain ⟨e12, h12⟩ := h12
  replace e12 := e12.symm
  subst e12
  replace h12 : hz a12 _ := h12
  refine f_eq (tgt := 52) hZ dX7_not_15 rfl (by omega) (fun h15 => ?_) (fun h15 => ?_)
  · have hz12 : a12 = 0 := by omega
    have hno0 := hz_f h12 hz12
    have hno : ¬ ∃ x, e = .ok x ∧ ptk x = 265 := fun ⟨x, z, z2⟩ => hno0 ⟨x, z, z2, hS.wv z (by omega)⟩
    refine f_aload_n hZ dX7_not_52 rfl ?_
    refine vX7_254 hZ dX7_not_53 (hT _ _ hS hW) (fun a53 M53 r53 h53 => ?_)
    refine f_istore_n (L' := [_, _, _, _]) hZ dX7_not_56 rfl rfl ?_
    refine f_aload_n hZ dX7_not_57 rfl ?_
    refine f_bipush hZ dX7_not_58 ?_
    refine vX7_229 hZ dX7_not_60 (t_X7_isSign (by omega) h53.1) (fun a60 M60 r60 h60 => ?_)
    obtain ⟨e60, h60⟩ := h60
    replace e60 := e60.symm
    subst e60
    replace h60 : hz a60 _ := h60
    refine f_ne (tgt := 77) hZ dX7_not_63 rfl (by omega) (fun h63 => ?_) (fun h63 => ?_)
    · obtain ⟨x, hxe, hx1⟩ : ∃ x, eb e T = .ok x ∧ (ptk x = 60 ∨ ptk x = 61) := by
        first
        | (have hq : ¬ a60 = 0 := by omega
           obtain ⟨x, z1, z2⟩ := hz_t h60 hq
           exact ⟨x, z1, Or.inl z2⟩)
        | (have hnz : ¬ a69 = 0 := by omega
           obtain ⟨x, z1, z2⟩ := hz_t h69 hnz
           exact ⟨x, z1, Or.inr z2⟩)
      have hRx := h53.1
      rw [hxe] at hRx
      have hWx : WfX n x := we_eb hf hW x hxe
      have hsg := (hRx.sg (s := ptk x) (by omega)).mpr ⟨x, rfl, rfl⟩
      have h26 := hsg.2.2
      refine f_aload_n hZ dX7_not_77 rfl ?_
      refine gX7_181 hZ dX7_not_78 (fun r78 => ?_)
      refine f_ldc2 (v := (60 : Int64)) hZ (60) dX7_not_81 (tb_in 1113 (by decide +kernel) (by decide +kernel)) (by decide) ?_
      refine f_lcmp hZ dX7_not_84 (by omega) (by omega) ?_
      refine f_ne (tgt := 92) hZ dX7_not_85 rfl (rg_cmpJ _ _) (fun h85 => ?_) (fun h85 => ?_)
      · simp only [cmpJ_lt, cmpJ_gt, cmpJ_eq, cmpJ_ge, cmpJ_le] at h85
        refine f_iconst hZ dX7_not_92 ?_
        refine f_istore_n (L' := [_, _, _, _]) hZ dX7_not_93 rfl rfl ?_
        refine f_aload_n hZ dX7_not_94 rfl ?_
        refine vX7_204 hZ dX7_not_95 (c_next hRx (by omega)) (fun M95 h95 => ?_)
        refine f_aload_n hZ dX7_not_98 rfl ?_
        refine vX7_254 hZ dX7_not_99 (hT _ _ h95.1 (adv_we hWx (by omega))) (fun a99 M99 r99 h99 => ?_)
        refine f_istore_n (L' := [_, _, _, _]) hZ dX7_not_102 rfl rfl ?_
        refine f_iload_n hZ dX7_not_103 rfl ?_
        refine f_eq (tgt := 115) hZ dX7_not_104 rfl (by omega) (fun h104 => ?_) (fun h104 => ?_)
        · refine f_iload_n hZ dX7_not_115 rfl ?_
          refine f_iload_n hZ dX7_not_116 rfl ?_
          refine f_ine (tgt := 124) hZ dX7_not_117 rfl (by omega) (by omega) (fun h117 => ?_) (fun h117 => ?_)
          · refine f_iconst hZ dX7_not_124 ?_
            refine f_retI hZ hR dX7_not_125 rfl (by omega) ?_
            have hq : ptk x = 61 := by omega
            have hm := at_cm (c := -5) (g := fun x => .error (pat x)) hno h53 hxe (by unfold cmG; rw [if_neg (by omega), if_pos hq]) h95.2 h99 hf hWx (by omega)
            rw [bz5, if_neg (by omega)] at hm
            exact hm
          · refine f_iconst hZ dX7_not_120 ?_
            refine f_goto (tgt := 125) hZ dX7_not_121 rfl ?_
            refine f_retI hZ hR dX7_not_125 rfl (by omega) ?_
            have hq : ptk x = 61 := by omega
            have hm := at_cm (c := -5) (g := fun x => .error (pat x)) hno h53 hxe (by unfold cmG; rw [if_neg (by omega), if_pos hq]) h95.2 h99 hf hWx (by omega)
            rw [bz5, if_pos (by omega)] at hm
            exact hm
        · exfalso; omega
      · simp only [cmpJ_lt, cmpJ_gt, cmpJ_eq, cmpJ_ge, cmpJ_le] at h85
        refine f_iconst hZ dX7_not_88 ?_
        refine f_goto (tgt := 93) hZ dX7_not_89 rfl ?_
        refine f_istore_n (L' := [_, _, _, _]) hZ dX7_not_93 rfl rfl ?_
        refine f_aload_n hZ dX7_not_94 rfl ?_
        refine vX7_204 hZ dX7_not_95 (c_next hRx (by omega)) (fun M95 h95 => ?_)
        refine f_aload_n hZ dX7_not_98 rfl ?_
        refine vX7_254 hZ dX7_not_99 (hT _ _ h95.1 (adv_we hWx (by omega))) (fun a99 M99 r99 h99 => ?_)
        refine f_istore_n (L' := [_, _, _, _]) hZ dX7_not_102 rfl rfl ?_
        refine f_iload_n hZ dX7_not_103 rfl ?_
        refine f_eq (tgt := 115) hZ dX7_not_104 rfl (by omega) (fun h104 => ?_) (fun h104 => ?_)
        · exfalso; omega
        · refine f_iload_n hZ dX7_not_107 rfl ?_
          refine f_iload_n hZ dX7_not_108 rfl ?_
          refine f_ige (tgt := 124) hZ dX7_not_109 rfl (by omega) (by omega) (fun h109 => ?_) (fun h109 => ?_)
          · refine f_iconst hZ dX7_not_124 ?_
            refine f_retI hZ hR dX7_not_125 rfl (by omega) ?_
            have hq : ptk x = 60 := by omega
            have hm := at_cm (c := -4) (g := fun x => .error (pat x)) hno h53 hxe (by unfold cmG; rw [if_pos hq]) h95.2 h99 hf hWx (by omega)
            rw [bz4, if_neg (by omega)] at hm
            exact hm
          · refine f_goto (tgt := 120) hZ dX7_not_112 rfl ?_
            refine f_iconst hZ dX7_not_120 ?_
            refine f_goto (tgt := 125) hZ dX7_not_121 rfl ?_
            refine f_retI hZ hR dX7_not_125 rfl (by omega) ?_
            have hq : ptk x = 60 := by omega
            have hm := at_cm (c := -4) (g := fun x => .error (pat x)) hno h53 hxe (by unfold cmG; rw [if_pos hq]) h95.2 h99 hf hWx (by omega)
            rw [bz4, if_pos (by omega)] at hm
            exact hm
    · refine f_aload_n hZ dX7_not_66 rfl ?_
      refine f_bipush hZ dX7_not_67 ?_
      refine vX7_229 hZ dX7_not_69 (t_X7_isSign (by omega) h53.1) (fun a69 M69 r69 h69 => ?_)
      obtain ⟨e69, h69⟩ := h69
      replace e69 := e69.symm
      subst e69
      replace h69 : hz a69 _ := h69
      refine f_ne (tgt := 77) hZ dX7_not_72 rfl (by omega) (fun h72 => ?_) (fun h72 => ?_)
      · obtain ⟨x, hxe, hx1⟩ : ∃ x, eb e T = .ok x ∧ (ptk x = 60 ∨ ptk x = 61) := by
          first
          | (have hq : ¬ a60 = 0 := by omega
             obtain ⟨x, z1, z2⟩ := hz_t h60 hq
             exact ⟨x, z1, Or.inl z2⟩)
          | (have hnz : ¬ a69 = 0 := by omega
             obtain ⟨x, z1, z2⟩ := hz_t h69 hnz
             exact ⟨x, z1, Or.inr z2⟩)
        have hRx := h53.1
        rw [hxe] at hRx
        have hWx : WfX n x := we_eb hf hW x hxe
        have hsg := (hRx.sg (s := ptk x) (by omega)).mpr ⟨x, rfl, rfl⟩
        have h26 := hsg.2.2
        refine f_aload_n hZ dX7_not_77 rfl ?_
        refine gX7_181 hZ dX7_not_78 (fun r78 => ?_)
        refine f_ldc2 (v := (60 : Int64)) hZ (60) dX7_not_81 (tb_in 1113 (by decide +kernel) (by decide +kernel)) (by decide) ?_
        refine f_lcmp hZ dX7_not_84 (by omega) (by omega) ?_
        refine f_ne (tgt := 92) hZ dX7_not_85 rfl (rg_cmpJ _ _) (fun h85 => ?_) (fun h85 => ?_)
        · simp only [cmpJ_lt, cmpJ_gt, cmpJ_eq, cmpJ_ge, cmpJ_le] at h85
          refine f_iconst hZ dX7_not_92 ?_
          refine f_istore_n (L' := [_, _, _, _]) hZ dX7_not_93 rfl rfl ?_
          refine f_aload_n hZ dX7_not_94 rfl ?_
          refine vX7_204 hZ dX7_not_95 (c_next hRx (by omega)) (fun M95 h95 => ?_)
          refine f_aload_n hZ dX7_not_98 rfl ?_
          refine vX7_254 hZ dX7_not_99 (hT _ _ h95.1 (adv_we hWx (by omega))) (fun a99 M99 r99 h99 => ?_)
          refine f_istore_n (L' := [_, _, _, _]) hZ dX7_not_102 rfl rfl ?_
          refine f_iload_n hZ dX7_not_103 rfl ?_
          refine f_eq (tgt := 115) hZ dX7_not_104 rfl (by omega) (fun h104 => ?_) (fun h104 => ?_)
          · refine f_iload_n hZ dX7_not_115 rfl ?_
            refine f_iload_n hZ dX7_not_116 rfl ?_
            refine f_ine (tgt := 124) hZ dX7_not_117 rfl (by omega) (by omega) (fun h117 => ?_) (fun h117 => ?_)
            · refine f_iconst hZ dX7_not_124 ?_
              refine f_retI hZ hR dX7_not_125 rfl (by omega) ?_
              have hq : ptk x = 61 := by omega
              have hm := at_cm (c := -5) (g := fun x => .error (pat x)) hno h53 hxe (by unfold cmG; rw [if_neg (by omega), if_pos hq]) h95.2 h99 hf hWx (by omega)
              rw [bz5, if_neg (by omega)] at hm
              exact hm
            · refine f_iconst hZ dX7_not_120 ?_
              refine f_goto (tgt := 125) hZ dX7_not_121 rfl ?_
              refine f_retI hZ hR dX7_not_125 rfl (by omega) ?_
              have hq : ptk x = 61 := by omega
              have hm := at_cm (c := -5) (g := fun x => .error (pat x)) hno h53 hxe (by unfold cmG; rw [if_neg (by omega), if_pos hq]) h95.2 h99 hf hWx (by omega)
              rw [bz5, if_pos (by omega)] at hm
              exact hm
          · exfalso; omega
        · simp only [cmpJ_lt, cmpJ_gt, cmpJ_eq, cmpJ_ge, cmpJ_le] at h85
          refine f_iconst hZ dX7_not_88 ?_
          refine f_goto (tgt := 93) hZ dX7_not_89 rfl ?_
          refine f_istore_n (L' := [_, _, _, _]) hZ dX7_not_93 rfl rfl ?_
          refine f_aload_n hZ dX7_not_94 rfl ?_
          refine vX7_204 hZ dX7_not_95 (c_next hRx (by omega)) (fun M95 h95 => ?_)
          refine f_aload_n hZ dX7_not_98 rfl ?_
          refine vX7_254 hZ dX7_not_99 (hT _ _ h95.1 (adv_we hWx (by omega))) (fun a99 M99 r99 h99 => ?_)
          refine f_istore_n (L' := [_, _, _, _]) hZ dX7_not_102 rfl rfl ?_
          refine f_iload_n hZ dX7_not_103 rfl ?_
          refine f_eq (tgt := 115) hZ dX7_not_104 rfl (by omega) (fun h104 => ?_) (fun h104 => ?_)
          · exfalso; omega
          · refine f_iload_n hZ dX7_not_107 rfl ?_
            refine f_iload_n hZ dX7_not_108 rfl ?_
            refine f_ige (tgt := 124) hZ dX7_not_109 rfl (by omega) (by omega) (fun h109 => ?_) (fun h109 => ?_)
            · refine f_iconst hZ dX7_not_124 ?_
              refine f_retI hZ hR dX7_not_125 rfl (by omega) ?_
              have hq : ptk x = 60 := by omega
              have hm := at_cm (c := -4) (g := fun x => .error (pat x)) hno h53 hxe (by unfold cmG; rw [if_pos hq]) h95.2 h99 hf hWx (by omega)
              rw [bz4, if_neg (by omega)] at hm
              exact hm
            · refine f_goto (tgt := 120) hZ dX7_not_112 rfl ?_
              refine f_iconst hZ dX7_not_120 ?_
              refine f_goto (tgt := 125) hZ dX7_not_121 rfl ?_
              refine f_retI hZ hR dX7_not_125 rfl (by omega) ?_
              have hq : ptk x = 60 := by omega
              have hm := at_cm (c := -4) (g := fun x => .error (pat x)) hno h53 hxe (by unfold cmG; rw [if_pos hq]) h95.2 h99 hf hWx (by omega)
              rw [bz4, if_pos (by omega)] at hm
              exact hm
      · refine f_iload_n hZ dX7_not_75 rfl ?_
        refine f_retI hZ hR dX7_not_76 rfl (by omega) ?_
        have hz60 : a60 = 0 := by omega
        have hz69 : a69 = 0 := by omega
        exact at_cm0 hno h53 (hz_f h60 hz60) (hz_f h69 hz69)
  · have hnz : ¬ a12 = 0 := by omega
    obtain ⟨x, rfl, hx1, _⟩ := hz_t h12 hnz
    have hWx := hW x rfl
    refine f_aload_n hZ dX7_not_18 rfl ?_
    refine vX7_232 hZ dX7_not_19 (t_X7_opens hS (by omega)) (fun a19 M19 r19 h19 => ?_)
    obtain ⟨h19f, h19⟩ := h19
    replace h19 := h19.resolve_right (fun z => by omega)
    refine f_ne (tgt := 27) hZ dX7_not_22 rfl (by omega) (fun h22 => ?_) (fun h22 => ?_)
    · exfalso; omega
    · refine f_iconst hZ dX7_not_25 ?_
      refine f_retI hZ hR dX7_not_26 rfl (by omega) ?_
      refine ⟨?_, h19f, fun z hz => ?_⟩
      · show mS B n t o (if ptk x = 265 then _ else _) _
        rw [if_pos hx1]
        exact h19.2.2.1
      · have hz : (if ptk x = 265 then _ else _) = Except.ok z := hz
        rw [if_pos hx1] at hz
        cases hz

set_option maxRecDepth 20000 in
set_option maxHeartbeats 4000000 in
theorem t_X7_not_s {X : fX} {B : Int → Int} {n t : Int} {d : Nat} {o : Int} (ho : 0 ≤ o ∧ o ≤ 4) {T : pT → pE} (hf : Gd n T) (hT : MC B n t X (d + 12) mX7_added o T) {h : pT → pE} (hN : MC B n t X (d + 12) mX7_not (o + 1) h) : MC B n t X (d + 13) mX7_not o (negG B n T (un1 B n h (-8) notZ)) := by
  intro M e hS hW
  have hn := hS.1.1.2.1.2
  refine fC.of (L := [_, _, _, _]) (by decide +kernel) rfl (Nat.le_of_ble_eq_true rfl) (fun Z hZ hR => ?_)
  refine f_aload_n hZ dX7_not_0 rfl ?_
  refine f_bipush hZ dX7_not_1 ?_
  refine f_bipush hZ dX7_not_3 ?_
  refine f_bipush hZ dX7_not_5 ?_
  refine f_iconst hZ dX7_not_7 ?_
  refine f_iconst hZ dX7_not_8 ?_
  refine f_iconst hZ dX7_not_9 ?_
  refine f_iconst hZ dX7_not_10 ?_
  refine f_iconst hZ dX7_not_11 ?_
  refine vX7_207 hZ dX7_not_12 (t_w11 hS) (fun a12 M12 r12 h12 => ?_)
  obtain ⟨e12, h12⟩ := h12
  replace e12 := e12.symm
  subst e12
  replace h12 : hz a12 _ := h12
  refine f_eq (tgt := 52) hZ dX7_not_15 rfl (by omega) (fun h15 => ?_) (fun h15 => ?_)
  · have hz12 : a12 = 0 := by omega
    have hno0 := hz_f h12 hz12
    have hno : ¬ ∃ x, e = .ok x ∧ ptk x = 265 := fun ⟨x, z, z2⟩ => hno0 ⟨x, z, z2, hS.wv z (by omega)⟩
    refine f_aload_n hZ dX7_not_52 rfl ?_
    refine vX7_254 hZ dX7_not_53 (hT _ _ hS hW) (fun a53 M53 r53 h53 => ?_)
    refine f_istore_n (L' := [_, _, _, _]) hZ dX7_not_56 rfl rfl ?_
    refine f_aload_n hZ dX7_not_57 rfl ?_
    refine f_bipush hZ dX7_not_58 ?_
    refine vX7_229 hZ dX7_not_60 (t_X7_isSign (by omega) h53.1) (fun a60 M60 r60 h60 => ?_)
    obtain ⟨e60, h60⟩ := h60
    replace e60 := e60.symm
    subst e60
    replace h60 : hz a60 _ := h60
    refine f_ne (tgt := 77) hZ dX7_not_63 rfl (by omega) (fun h63 => ?_) (fun h63 => ?_)
    · obtain ⟨x, hxe, hx1⟩ : ∃ x, eb e T = .ok x ∧ (ptk x = 60 ∨ ptk x = 61) := by
        first
        | (have hq : ¬ a60 = 0 := by omega
           obtain ⟨x, z1, z2⟩ := hz_t h60 hq
           exact ⟨x, z1, Or.inl z2⟩)
        | (have hnz : ¬ a69 = 0 := by omega
           obtain ⟨x, z1, z2⟩ := hz_t h69 hnz
           exact ⟨x, z1, Or.inr z2⟩)
      have hRx := h53.1
      rw [hxe] at hRx
      have hWx : WfX n x := we_eb hf hW x hxe
      have hsg := (hRx.sg (s := ptk x) (by omega)).mpr ⟨x, rfl, rfl⟩
      have h26 := hsg.2.2
      refine f_aload_n hZ dX7_not_77 rfl ?_
      refine gX7_181 hZ dX7_not_78 (fun r78 => ?_)
      refine f_ldc2 (v := (60 : Int64)) hZ (60) dX7_not_81 (tb_in 1113 (by decide +kernel) (by decide +kernel)) (by decide) ?_
      refine f_lcmp hZ dX7_not_84 (by omega) (by omega) ?_
      refine f_ne (tgt := 92) hZ dX7_not_85 rfl (rg_cmpJ _ _) (fun h85 => ?_) (fun h85 => ?_)
      · simp only [cmpJ_lt, cmpJ_gt, cmpJ_eq, cmpJ_ge, cmpJ_le] at h85
        refine f_iconst hZ dX7_not_92 ?_
        refine f_istore_n (L' := [_, _, _, _]) hZ dX7_not_93 rfl rfl ?_
        refine f_aload_n hZ dX7_not_94 rfl ?_
        refine vX7_204 hZ dX7_not_95 (c_next hRx (by omega)) (fun M95 h95 => ?_)
        refine f_aload_n hZ dX7_not_98 rfl ?_
        refine vX7_254 hZ dX7_not_99 (hT _ _ h95.1 (adv_we hWx (by omega))) (fun a99 M99 r99 h99 => ?_)
        refine f_istore_n (L' := [_, _, _, _]) hZ dX7_not_102 rfl rfl ?_
        refine f_iload_n hZ dX7_not_103 rfl ?_
        refine f_eq (tgt := 115) hZ dX7_not_104 rfl (by omega) (fun h104 => ?_) (fun h104 => ?_)
        · refine f_iload_n hZ dX7_not_115 rfl ?_
          refine f_iload_n hZ dX7_not_116 rfl ?_
          refine f_ine (tgt := 124) hZ dX7_not_117 rfl (by omega) (by omega) (fun h117 => ?_) (fun h117 => ?_)
          · refine f_iconst hZ dX7_not_124 ?_
            refine f_retI hZ hR dX7_not_125 rfl (by omega) ?_
            have hq : ptk x = 61 := by omega
            have hm := at_cm (c := -5) (g := un1 B n h (-8) notZ) hno h53 hxe (by unfold cmG; rw [if_neg (by omega), if_pos hq]) h95.2 h99 hf hWx (by omega)
            rw [bz5, if_neg (by omega)] at hm
            exact hm
          · refine f_iconst hZ dX7_not_120 ?_
            refine f_goto (tgt := 125) hZ dX7_not_121 rfl ?_
            refine f_retI hZ hR dX7_not_125 rfl (by omega) ?_
            have hq : ptk x = 61 := by omega
            have hm := at_cm (c := -5) (g := un1 B n h (-8) notZ) hno h53 hxe (by unfold cmG; rw [if_neg (by omega), if_pos hq]) h95.2 h99 hf hWx (by omega)
            rw [bz5, if_pos (by omega)] at hm
            exact hm
        · exfalso; omega
      · simp only [cmpJ_lt, cmpJ_gt, cmpJ_eq, cmpJ_ge, cmpJ_le] at h85
        refine f_iconst hZ dX7_not_88 ?_
        refine f_goto (tgt := 93) hZ dX7_not_89 rfl ?_
        refine f_istore_n (L' := [_, _, _, _]) hZ dX7_not_93 rfl rfl ?_
        refine f_aload_n hZ dX7_not_94 rfl ?_
        refine vX7_204 hZ dX7_not_95 (c_next hRx (by omega)) (fun M95 h95 => ?_)
        refine f_aload_n hZ dX7_not_98 rfl ?_
        refine vX7_254 hZ dX7_not_99 (hT _ _ h95.1 (adv_we hWx (by omega))) (fun a99 M99 r99 h99 => ?_)
        refine f_istore_n (L' := [_, _, _, _]) hZ dX7_not_102 rfl rfl ?_
        refine f_iload_n hZ dX7_not_103 rfl ?_
        refine f_eq (tgt := 115) hZ dX7_not_104 rfl (by omega) (fun h104 => ?_) (fun h104 => ?_)
        · exfalso; omega
        · refine f_iload_n hZ dX7_not_107 rfl ?_
          refine f_iload_n hZ dX7_not_108 rfl ?_
          refine f_ige (tgt := 124) hZ dX7_not_109 rfl (by omega) (by omega) (fun h109 => ?_) (fun h109 => ?_)
          · refine f_iconst hZ dX7_not_124 ?_
            refine f_retI hZ hR dX7_not_125 rfl (by omega) ?_
            have hq : ptk x = 60 := by omega
            have hm := at_cm (c := -4) (g := un1 B n h (-8) notZ) hno h53 hxe (by unfold cmG; rw [if_pos hq]) h95.2 h99 hf hWx (by omega)
            rw [bz4, if_neg (by omega)] at hm
            exact hm
          · refine f_goto (tgt := 120) hZ dX7_not_112 rfl ?_
            refine f_iconst hZ dX7_not_120 ?_
            refine f_goto (tgt := 125) hZ dX7_not_121 rfl ?_
            refine f_retI hZ hR dX7_not_125 rfl (by omega) ?_
            have hq : ptk x = 60 := by omega
            have hm := at_cm (c := -4) (g := un1 B n h (-8) notZ) hno h53 hxe (by unfold cmG; rw [if_pos hq]) h95.2 h99 hf hWx (by omega)
            rw [bz4, if_pos (by omega)] at hm
            exact hm
    · refine f_aload_n hZ dX7_not_66 rfl ?_
      refine f_bipush hZ dX7_not_67 ?_
      refine vX7_229 hZ dX7_not_69 (t_X7_isSign (by omega) h53.1) (fun a69 M69 r69 h69 => ?_)
      obtain ⟨e69, h69⟩ := h69
      replace e69 := e69.symm
      subst e69
      replace h69 : hz a69 _ := h69
      refine f_ne (tgt := 77) hZ dX7_not_72 rfl (by omega) (fun h72 => ?_) (fun h72 => ?_)
      · obtain ⟨x, hxe, hx1⟩ : ∃ x, eb e T = .ok x ∧ (ptk x = 60 ∨ ptk x = 61) := by
          first
          | (have hq : ¬ a60 = 0 := by omega
             obtain ⟨x, z1, z2⟩ := hz_t h60 hq
             exact ⟨x, z1, Or.inl z2⟩)
          | (have hnz : ¬ a69 = 0 := by omega
             obtain ⟨x, z1, z2⟩ := hz_t h69 hnz
             exact ⟨x, z1, Or.inr z2⟩)
        have hRx := h53.1
        rw [hxe] at hRx
        have hWx : WfX n x := we_eb hf hW x hxe
        have hsg := (hRx.sg (s := ptk x) (by omega)).mpr ⟨x, rfl, rfl⟩
        have h26 := hsg.2.2
        refine f_aload_n hZ dX7_not_77 rfl ?_
        refine gX7_181 hZ dX7_not_78 (fun r78 => ?_)
        refine f_ldc2 (v := (60 : Int64)) hZ (60) dX7_not_81 (tb_in 1113 (by decide +kernel) (by decide +kernel)) (by decide) ?_
        refine f_lcmp hZ dX7_not_84 (by omega) (by omega) ?_
        refine f_ne (tgt := 92) hZ dX7_not_85 rfl (rg_cmpJ _ _) (fun h85 => ?_) (fun h85 => ?_)
        · simp only [cmpJ_lt, cmpJ_gt, cmpJ_eq, cmpJ_ge, cmpJ_le] at h85
          refine f_iconst hZ dX7_not_92 ?_
          refine f_istore_n (L' := [_, _, _, _]) hZ dX7_not_93 rfl rfl ?_
          refine f_aload_n hZ dX7_not_94 rfl ?_
          refine vX7_204 hZ dX7_not_95 (c_next hRx (by omega)) (fun M95 h95 => ?_)
          refine f_aload_n hZ dX7_not_98 rfl ?_
          refine vX7_254 hZ dX7_not_99 (hT _ _ h95.1 (adv_we hWx (by omega))) (fun a99 M99 r99 h99 => ?_)
          refine f_istore_n (L' := [_, _, _, _]) hZ dX7_not_102 rfl rfl ?_
          refine f_iload_n hZ dX7_not_103 rfl ?_
          refine f_eq (tgt := 115) hZ dX7_not_104 rfl (by omega) (fun h104 => ?_) (fun h104 => ?_)
          · refine f_iload_n hZ dX7_not_115 rfl ?_
            refine f_iload_n hZ dX7_not_116 rfl ?_
            refine f_ine (tgt := 124) hZ dX7_not_117 rfl (by omega) (by omega) (fun h117 => ?_) (fun h117 => ?_)
            · refine f_iconst hZ dX7_not_124 ?_
              refine f_retI hZ hR dX7_not_125 rfl (by omega) ?_
              have hq : ptk x = 61 := by omega
              have hm := at_cm (c := -5) (g := un1 B n h (-8) notZ) hno h53 hxe (by unfold cmG; rw [if_neg (by omega), if_pos hq]) h95.2 h99 hf hWx (by omega)
              rw [bz5, if_neg (by omega)] at hm
              exact hm
            · refine f_iconst hZ dX7_not_120 ?_
              refine f_goto (tgt := 125) hZ dX7_not_121 rfl ?_
              refine f_retI hZ hR dX7_not_125 rfl (by omega) ?_
              have hq : ptk x = 61 := by omega
              have hm := at_cm (c := -5) (g := un1 B n h (-8) notZ) hno h53 hxe (by unfold cmG; rw [if_neg (by omega), if_pos hq]) h95.2 h99 hf hWx (by omega)
              rw [bz5, if_pos (by omega)] at hm
              exact hm
          · exfalso; omega
        · simp only [cmpJ_lt, cmpJ_gt, cmpJ_eq, cmpJ_ge, cmpJ_le] at h85
          refine f_iconst hZ dX7_not_88 ?_
          refine f_goto (tgt := 93) hZ dX7_not_89 rfl ?_
          refine f_istore_n (L' := [_, _, _, _]) hZ dX7_not_93 rfl rfl ?_
          refine f_aload_n hZ dX7_not_94 rfl ?_
          refine vX7_204 hZ dX7_not_95 (c_next hRx (by omega)) (fun M95 h95 => ?_)
          refine f_aload_n hZ dX7_not_98 rfl ?_
          refine vX7_254 hZ dX7_not_99 (hT _ _ h95.1 (adv_we hWx (by omega))) (fun a99 M99 r99 h99 => ?_)
          refine f_istore_n (L' := [_, _, _, _]) hZ dX7_not_102 rfl rfl ?_
          refine f_iload_n hZ dX7_not_103 rfl ?_
          refine f_eq (tgt := 115) hZ dX7_not_104 rfl (by omega) (fun h104 => ?_) (fun h104 => ?_)
          · exfalso; omega
          · refine f_iload_n hZ dX7_not_107 rfl ?_
            refine f_iload_n hZ dX7_not_108 rfl ?_
            refine f_ige (tgt := 124) hZ dX7_not_109 rfl (by omega) (by omega) (fun h109 => ?_) (fun h109 => ?_)
            · refine f_iconst hZ dX7_not_124 ?_
              refine f_retI hZ hR dX7_not_125 rfl (by omega) ?_
              have hq : ptk x = 60 := by omega
              have hm := at_cm (c := -4) (g := un1 B n h (-8) notZ) hno h53 hxe (by unfold cmG; rw [if_pos hq]) h95.2 h99 hf hWx (by omega)
              rw [bz4, if_neg (by omega)] at hm
              exact hm
            · refine f_goto (tgt := 120) hZ dX7_not_112 rfl ?_
              refine f_iconst hZ dX7_not_120 ?_
              refine f_goto (tgt := 125) hZ dX7_not_121 rfl ?_
              refine f_retI hZ hR dX7_not_125 rfl (by omega) ?_
              have hq : ptk x = 60 := by omega
              have hm := at_cm (c := -4) (g := un1 B n h (-8) notZ) hno h53 hxe (by unfold cmG; rw [if_pos hq]) h95.2 h99 hf hWx (by omega)
              rw [bz4, if_pos (by omega)] at hm
              exact hm
      · refine f_iload_n hZ dX7_not_75 rfl ?_
        refine f_retI hZ hR dX7_not_76 rfl (by omega) ?_
        have hz60 : a60 = 0 := by omega
        have hz69 : a69 = 0 := by omega
        exact at_cm0 hno h53 (hz_f h60 hz60) (hz_f h69 hz69)
  · have hnz : ¬ a12 = 0 := by omega
    obtain ⟨x, rfl, hx1, _⟩ := hz_t h12 hnz
    have hWx := hW x rfl
    refine f_aload_n hZ dX7_not_18 rfl ?_
    refine vX7_232 hZ dX7_not_19 (t_X7_opens hS (by omega)) (fun a19 M19 r19 h19 => ?_)
    obtain ⟨h19f, h19⟩ := h19
    replace h19 := (h19.resolve_left (fun z => by omega))
    have h19r := h19.2.1
    replace h19 := h19.2.2
    refine f_ne (tgt := 27) hZ dX7_not_22 rfl (by omega) (fun h22 => ?_) (fun h22 => ?_)
    · refine f_aload_n hZ dX7_not_27 rfl ?_
      refine vX7_251 hZ dX7_not_28 (hN _ _ h19 (adv_we hWx (by omega))) (fun a28 M28 r28 h28 => ?_)
      refine f_istore_n (L' := [_, _, _, _]) hZ dX7_not_31 rfl rfl ?_
      refine f_aload_n hZ dX7_not_32 rfl ?_
      refine f_dup hZ dX7_not_33 rfl ?_
      refine gX7_198 hZ dX7_not_34 (fun r34 => ?_)
      refine f_iconst hZ dX7_not_37 ?_
      refine f_isub hZ dX7_not_38 ?_
      rw [show M28 59 27 - 1 = o by have := h28.1.1.2.1.1; omega]
      refine pX7_198 hZ dX7_not_39 (by omega) ?_
      refine f_iload_n hZ dX7_not_42 rfl ?_
      refine f_ne (tgt := 50) hZ dX7_not_43 rfl (by omega) (fun h43 => ?_) (fun h43 => ?_)
      · refine f_iconst hZ dX7_not_50 ?_
        refine f_retI hZ hR dX7_not_51 rfl (by omega) ?_
        have hm := at_not (T := T) hx1 h28 h19f (by omega)
        rw [show notZ a28 = 0 from if_neg (by omega)] at hm
        exact hm
      · refine f_iconst hZ dX7_not_46 ?_
        refine f_goto (tgt := 51) hZ dX7_not_47 rfl ?_
        refine f_retI hZ hR dX7_not_51 rfl (by omega) ?_
        have hm := at_not (T := T) hx1 h28 h19f (by omega)
        rw [show notZ a28 = 1 from if_pos (by omega)] at hm
        exact hm
    · exfalso; omega

theorem MC.dep {B : Int → Int} {n t : Int} {X : fX} {d d' : Nat} {y : fY} {o : Int} {f g : pT → pE} (h : MC B n t X d y o f) (e : d = d') (ef : f = g) : MC B n t X d' y o g := by subst e; subst ef; exact h
/-- all levels -/
theorem t_X7_all {X : fX} {B : Int → Int} {n t : Int} : ∀ (k : Nat) (o : Int), o = 5 - (k : Int) → 0 ≤ o → ∀ d : Nat, MC B n t X (d + (6 * k + 10)) mX7_atom o (pLv B n k).1 ∧ MC B n t X (d + (6 * k + 13)) mX7_not o (pLv B n k).2 ∧ MC B n t X (d + (6 * k + 15)) mX7_either o (ethF B n (pLv B n k).2)
  | 0, o, ho, h0, d => by
    have g1 : Gd n (oneF B n none) := (pLv_gd (B := B) (n := n) 0).1
    have g2 : Gd n (pLv B n 0).2 := (pLv_gd 0).2
    have hO : ∀ d : Nat, MC B n t X (d + 10) mX7_atom o (oneF B n none) := fun d => t_X7_atom_0 (by omega)
    have hT := t_X7_term (d := d) g1 ((hO d).dep (by omega) rfl)
    have hS := t_X7_added (d := d) (trm_gd g1) (hT.dep (by omega) rfl)
    have hN := t_X7_not_0 (d := d) (by omega) (sm_gd g1) (hS.dep (by omega) rfl)
    have hN : MC B n t X (d + 13) mX7_not o (pLv B n 0).2 := hN.dep (by omega) rfl
    have hB := t_X7_both (d := d) g2 (hN.dep (by omega) rfl)
    have hE := t_X7_either (d := d) (bth_gd g2) (hB.dep (by omega) rfl)
    exact ⟨(hO d).dep (by omega) rfl, hN.dep (by omega) rfl, hE.dep (by omega) rfl⟩
  | k + 1, o, ho, h0, d => by
    have ih := fun d => t_X7_all (X := X) (B := B) (t := t) (n := n) k (o + 1) (by omega) (by omega) d
    have gk := pLv_gd (B := B) (n := n) k
    have g1 : Gd n (oneF B n (some ((pLv B n k).1, ethF B n (pLv B n k).2))) := (pLv_gd (B := B) (n := n) (k + 1)).1
    have g2 : Gd n (pLv B n (k + 1)).2 := (pLv_gd (k + 1)).2
    have hO : MC B n t X (d + (6 * k + 16)) mX7_atom o (oneF B n (some ((pLv B n k).1, ethF B n (pLv B n k).2))) := (t_X7_atom_s (d := d + (6 * k + 6)) (by omega) ((ih (d + 5)).1.dep (by omega) rfl) ((ih d).2.2.dep (by omega) rfl)).dep (by omega) rfl
    have hT := t_X7_term (d := d + (6 * k + 6)) g1 (hO.dep (by omega) rfl)
    have hS := t_X7_added (d := d + (6 * k + 6)) (trm_gd g1) (hT.dep (by omega) rfl)
    have hN := t_X7_not_s (d := d + (6 * k + 6)) (by omega) (sm_gd g1) (hS.dep (by omega) rfl) ((ih (d + 5)).2.1.dep (by omega) rfl)
    have hN : MC B n t X (d + (6 * k + 19)) mX7_not o (pLv B n (k + 1)).2 := hN.dep (by omega) rfl
    have hB := t_X7_both (d := d + (6 * k + 6)) g2 (hN.dep (by omega) rfl)
    have hE := t_X7_either (d := d + (6 * k + 6)) (bth_gd g2) (hB.dep (by omega) rfl)
    exact ⟨hO.dep (by omega) rfl, hN.dep (by omega) rfl, hE.dep (by omega) rfl⟩
