/-! the grammar of the class -/
theorem we_eb {n : Int} {e : pE} {f : pT → pE} (hf : Gd n f) (hW : WE n e) : WE n (eb e f) := fun y hy => by
  obtain ⟨x, h1, h2⟩ := eb_inv hy
  exact (hf x y (hW x h1) h2).1
theorem adv_we {B : Int → Int} {n : Int} {x : pT} (hx : WfX n x) (ht : ptk x ≠ 258) : WE n (adv B n x) := fun y hy => (adv_ok hx ht hy).1
theorem sub_len {B : Int → Int} {n : Int} {f : pT → pE} (hf : Gd n f) (hn : n ≤ 160) {x : pT} (hx : WfX n x) (ht : ptk x ≠ 258) : ∀ z, eb (adv B n x) f = .ok z → (pcd z).length < 160 := fun z hz => by
  have h := sub_room hf hx ht hz
  have h1 := h.1.2.1
  have h2 := h.2.1
  omega
theorem bn1_we {B : Int → Int} {n : Int} {f : pT → pE} (hf : Gd n f) {x : pT} (hx : WfX n x) (ht : ptk x ≠ 258) {c : Int} : WE n (bn1 B n f c x) := fun y hy => by
  obtain ⟨z, h1, h2⟩ := eb_inv hy
  have h := sub_room hf hx ht h1
  cases h2
  exact emt_wf h.1 h.2.1
theorem eb_id {e : pE} {f : pT → pE} (h : ∀ x, e = .ok x → f x = .ok x) : eb e f = e := by
  cases e with
  | error p => rfl
  | ok x => exact h x rfl
theorem lp_stop {B : Int → Int} {n : Int} {f : pT → pE} {op : Int → Int} {m : Nat} {x : pT} (h : op (ptk x) = 0) : lp B n f op m x = .ok x := by
  cases m with
  | zero => rfl
  | succ m => exact if_pos h
theorem lp_go {B : Int → Int} {n : Int} {f : pT → pE} {op : Int → Int} {m : Nat} {x : pT} {c : Int} (h : op (ptk x) = c) (hc : c ≠ 0) : lp B n f op (m + 1) x = eb (bn1 B n f c x) (lp B n f op m) := by
  show (if op (ptk x) = 0 then _ else _) = _
  rw [h, if_neg hc]
theorem RS.v {B : Int → Int} {n t c : Int} {E : pE} {K : fM} {v : pV} {w : pT → pV} (h : RS B n t (eb E fun z => .ok (emt c v z)) K) : RS B n t (eb E fun z => .ok (emt c (w z) z)) K := by
  cases E with
  | error p => exact h
  | ok z => exact h
/-- over any part -/
def lpF (B : Int → Int) (n : Int) (op : Int → Int) (f : pT → pE) (x : pT) : pE := eb (f x) (lp B n f op 160)
set_option maxRecDepth 20000 in
set_option maxHeartbeats 4000000 in
theorem t_X2_term {X : fX} {B : Int → Int} {n t : Int} {d : Nat} {o : Int} (ho : 0 ≤ o ∧ o ≤ 5) (hn : n ≤ 160) {f : pT → pE} (hf : Gd n f) (hO : RC B n t X (d + 8) mX2_one o f) : RC B n t X (d + 9) mX2_term o (trmF B n f) := by
  intro M e hS hW
  refine fC.of (L := [_, _, _]) (by decide +kernel) rfl (Nat.le_of_ble_eq_true rfl) (fun Z hZ hR => ?_)
  have loop : ∀ (m : Nat) (i : Int) (N : fM) (e1 : pE), i + m = 160 → 0 ≤ i → RS B n t e1 N → WE n e1 → rF t M N → eb e1 (lp B n f op3 m) = eb e (trmF B n f) → fG X mX2_term Z 7 [.ref (xa X 37), .int (iv o), .int (iv i)] [] N := by
    intro m
    induction m with
    | zero =>
      intro i N e1 him hi0 hR0 hW0 hF0 heq
      refine f_iload_n hZ dX2_term_7 rfl ?_
      refine f_sipush hZ dX2_term_8 ?_
      refine f_ige (tgt := 44) hZ dX2_term_11 rfl (by omega) (by omega) (fun h11 => ?_) (fun h11 => ?_)
      · exact f_retV hZ hR dX2_term_44 rfl (by have hid : eb e1 (lp B n f op3 0) = e1 := eb_id (fun x _ => rfl); rw [hid] at heq; exact ⟨by rw [← heq]; exact hR0, hF0⟩)
      · exfalso; omega
    | succ m ih =>
      intro i N e1 him hi0 hR0 hW0 hF0 heq
      refine f_iload_n hZ dX2_term_7 rfl ?_
      refine f_sipush hZ dX2_term_8 ?_
      refine f_ige (tgt := 44) hZ dX2_term_11 rfl (by omega) (by omega) (fun h11 => ?_) (fun h11 => ?_)
      · exfalso; omega
      · refine f_aload_n hZ dX2_term_14 rfl ?_
        refine gX2_24 hZ dX2_term_15 (fun r15 => ?_)
        refine f_bipush hZ dX2_term_18 ?_
        refine f_ine (tgt := 44) hZ dX2_term_20 rfl (by omega) (by omega) (fun h20 => ?_) (fun h20 => ?_)
        · exact f_retV hZ hR dX2_term_44 rfl (by refine ⟨?_, hF0⟩; rw [← heq, eb_id (fun x hx => lp_stop ?_)]; exact hR0; rcases hR0.tk with ⟨_, p, z⟩ | ⟨_, y, z, g2⟩; rw [z] at hx; cases hx; rw [z] at hx; cases hx; unfold op3; rw [if_neg (by omega)])
        · have ⟨tk, htk, htk2⟩ : ∃ tk, N 37 6 = tk ∧ (tk = 42) := ⟨_, rfl, by omega⟩
          obtain ⟨x, rfl, hx1, _⟩ := hR0.ok htk (by omega)
          have hRx := hR0
          have hWx := hW0 x rfl
          have hx2 : ptk x ≠ 258 := by omega
          refine f_aload_n hZ dX2_term_23 rfl ?_
          refine vX2_46 hZ dX2_term_24 (c_adv hRx (fun y hy => by cases hy; omega)) (fun M24 h24 => ?_)
          have hA := h24
          refine f_aload_n hZ dX2_term_27 rfl ?_
          refine f_iload_n hZ dX2_term_28 rfl ?_
          refine vX2_79 hZ dX2_term_29 (hO _ _ hA.1 (adv_we hWx hx2)) (fun M29 h29 => ?_)
          have hB := h29
          refine f_aload_n hZ dX2_term_32 rfl ?_
          refine f_bipush hZ dX2_term_33 ?_
          refine vX2_64 hZ dX2_term_35 (c_emit (fun _ => 0) (by omega) hB.1 (sub_len hf hn hWx hx2)) (fun M35 h35 => ?_)
          have hC := h35
          refine f_iinc (L' := [_, _, _]) hZ dX2_term_38 rfl rfl ?_
          refine f_goto (tgt := 7) hZ dX2_term_41 rfl ?_
          first
            | exact ih (i + 1) _ (bn1 B n f (-3) x) (by omega) (by omega) (RS.v hC.1) (bn1_we hf hWx hx2) (((hF0.trans hA.2).trans hB.2).trans hC.2) (by rw [← heq]; exact (lp_go (by unfold op3; rw [if_pos (by omega)]) (by decide)).symm)
  refine f_aload_n hZ dX2_term_0 rfl ?_
  refine f_iload_n hZ dX2_term_1 rfl ?_
  refine vX2_79 hZ dX2_term_2 (hO M e hS hW) (fun M2 h2 => ?_)
  refine f_iconst hZ dX2_term_5 ?_
  refine f_istore_n (L' := [_, _, _]) hZ dX2_term_6 rfl rfl ?_
  exact loop 160 0 _ _ (by omega) (by omega) h2.1 (we_eb hf hW) h2.2 eb_assoc

set_option maxRecDepth 20000 in
set_option maxHeartbeats 4000000 in
theorem t_X2_sum {X : fX} {B : Int → Int} {n t : Int} {d : Nat} {o : Int} (ho : 0 ≤ o ∧ o ≤ 5) (hn : n ≤ 160) {f : pT → pE} (hf : Gd n f) (hO : RC B n t X (d + 9) mX2_term o f) : RC B n t X (d + 10) mX2_sum o (lpF B n op2 f) := by
  intro M e hS hW
  refine fC.of (L := [_, _, _, _]) (by decide +kernel) rfl (Nat.le_of_ble_eq_true rfl) (fun Z hZ hR => ?_)
  have loop : ∀ (m : Nat) (i : Int) (N : fM) (e1 : pE), i + m = 160 → 0 ≤ i → RS B n t e1 N → WE n e1 → rF t M N → eb e1 (lp B n f op2 m) = eb e (lpF B n op2 f) → fG X mX2_sum Z 7 [.ref (xa X 37), .int (iv o), .int (iv i), .null] [] N := by
    intro m
    induction m with
    | zero =>
      intro i N e1 him hi0 hR0 hW0 hF0 heq
      refine f_iload_n hZ dX2_sum_7 rfl ?_
      refine f_sipush hZ dX2_sum_8 ?_
      refine f_ige (tgt := 68) hZ dX2_sum_11 rfl (by omega) (by omega) (fun h11 => ?_) (fun h11 => ?_)
      · exact f_retV hZ hR dX2_sum_68 rfl (by have hid : eb e1 (lp B n f op2 0) = e1 := eb_id (fun x _ => rfl); rw [hid] at heq; exact ⟨by rw [← heq]; exact hR0, hF0⟩)
      · exfalso; omega
    | succ m ih =>
      intro i N e1 him hi0 hR0 hW0 hF0 heq
      refine f_iload_n hZ dX2_sum_7 rfl ?_
      refine f_sipush hZ dX2_sum_8 ?_
      refine f_ige (tgt := 68) hZ dX2_sum_11 rfl (by omega) (by omega) (fun h11 => ?_) (fun h11 => ?_)
      · exfalso; omega
      · refine f_aload_n hZ dX2_sum_14 rfl ?_
        refine gX2_24 hZ dX2_sum_15 (fun r15 => ?_)
        refine f_bipush hZ dX2_sum_18 ?_
        refine f_ieq (tgt := 32) hZ dX2_sum_20 rfl (by omega) (by omega) (fun h20 => ?_) (fun h20 => ?_)
        · refine f_aload_n hZ dX2_sum_32 rfl ?_
          refine gX2_24 hZ dX2_sum_33 (fun r33 => ?_)
          refine f_bipush hZ dX2_sum_36 ?_
          refine f_ine (tgt := 45) hZ dX2_sum_38 rfl (by omega) (by omega) (fun h38 => ?_) (fun h38 => ?_)
          · refine f_bipush hZ dX2_sum_45 ?_
            refine f_istore_n (L' := [_, _, _, _]) hZ dX2_sum_47 rfl rfl ?_
            have ⟨tk, htk, htk2⟩ : ∃ tk, N 37 6 = tk ∧ (tk = 43 ∨ tk = 45) := ⟨_, rfl, by omega⟩
            obtain ⟨x, rfl, hx1, _⟩ := hR0.ok htk (by omega)
            have hRx := hR0
            have hWx := hW0 x rfl
            have hx2 : ptk x ≠ 258 := by omega
            refine f_aload_n hZ dX2_sum_48 rfl ?_
            refine vX2_46 hZ dX2_sum_49 (c_adv hRx (fun y hy => by cases hy; omega)) (fun M49 h49 => ?_)
            have hA := h49
            refine f_aload_n hZ dX2_sum_52 rfl ?_
            refine f_iload_n hZ dX2_sum_53 rfl ?_
            refine vX2_76 hZ dX2_sum_54 (hO _ _ hA.1 (adv_we hWx hx2)) (fun M54 h54 => ?_)
            have hB := h54
            refine f_aload_n hZ dX2_sum_57 rfl ?_
            refine f_iload_n hZ dX2_sum_58 rfl ?_
            refine vX2_64 hZ dX2_sum_59 (c_emit (fun _ => 0) (by omega) hB.1 (sub_len hf hn hWx hx2)) (fun M59 h59 => ?_)
            have hC := h59
            refine f_iinc (L' := [_, _, _, _]) hZ dX2_sum_62 rfl rfl ?_
            refine f_goto (tgt := 7) hZ dX2_sum_65 rfl ?_
            refine f_forget (L' := [_, _, _, .null]) ⟨Or.inl rfl, Or.inl rfl, Or.inl rfl, Or.inr rfl, trivial⟩ ?_
            first
              | (exfalso; omega)
              | exact ih (i + 1) _ (bn1 B n f (-1) x) (by omega) (by omega) (RS.v hC.1) (bn1_we hf hWx hx2) (((hF0.trans hA.2).trans hB.2).trans hC.2) (by rw [← heq]; exact (lp_go (by unfold op2; first | rw [if_pos (by omega)] | rw [if_neg (by omega), if_pos (by omega)]) (by decide)).symm)
              | exact ih (i + 1) _ (bn1 B n f (-2) x) (by omega) (by omega) (RS.v hC.1) (bn1_we hf hWx hx2) (((hF0.trans hA.2).trans hB.2).trans hC.2) (by rw [← heq]; exact (lp_go (by unfold op2; first | rw [if_pos (by omega)] | rw [if_neg (by omega), if_pos (by omega)]) (by decide)).symm)
          · refine f_iconst hZ dX2_sum_41 ?_
            refine f_goto (tgt := 47) hZ dX2_sum_42 rfl ?_
            refine f_istore_n (L' := [_, _, _, _]) hZ dX2_sum_47 rfl rfl ?_
            have ⟨tk, htk, htk2⟩ : ∃ tk, N 37 6 = tk ∧ (tk = 43 ∨ tk = 45) := ⟨_, rfl, by omega⟩
            obtain ⟨x, rfl, hx1, _⟩ := hR0.ok htk (by omega)
            have hRx := hR0
            have hWx := hW0 x rfl
            have hx2 : ptk x ≠ 258 := by omega
            refine f_aload_n hZ dX2_sum_48 rfl ?_
            refine vX2_46 hZ dX2_sum_49 (c_adv hRx (fun y hy => by cases hy; omega)) (fun M49 h49 => ?_)
            have hA := h49
            refine f_aload_n hZ dX2_sum_52 rfl ?_
            refine f_iload_n hZ dX2_sum_53 rfl ?_
            refine vX2_76 hZ dX2_sum_54 (hO _ _ hA.1 (adv_we hWx hx2)) (fun M54 h54 => ?_)
            have hB := h54
            refine f_aload_n hZ dX2_sum_57 rfl ?_
            refine f_iload_n hZ dX2_sum_58 rfl ?_
            refine vX2_64 hZ dX2_sum_59 (c_emit (fun _ => 0) (by omega) hB.1 (sub_len hf hn hWx hx2)) (fun M59 h59 => ?_)
            have hC := h59
            refine f_iinc (L' := [_, _, _, _]) hZ dX2_sum_62 rfl rfl ?_
            refine f_goto (tgt := 7) hZ dX2_sum_65 rfl ?_
            refine f_forget (L' := [_, _, _, .null]) ⟨Or.inl rfl, Or.inl rfl, Or.inl rfl, Or.inr rfl, trivial⟩ ?_
            first
              | (exfalso; omega)
              | exact ih (i + 1) _ (bn1 B n f (-1) x) (by omega) (by omega) (RS.v hC.1) (bn1_we hf hWx hx2) (((hF0.trans hA.2).trans hB.2).trans hC.2) (by rw [← heq]; exact (lp_go (by unfold op2; first | rw [if_pos (by omega)] | rw [if_neg (by omega), if_pos (by omega)]) (by decide)).symm)
              | exact ih (i + 1) _ (bn1 B n f (-2) x) (by omega) (by omega) (RS.v hC.1) (bn1_we hf hWx hx2) (((hF0.trans hA.2).trans hB.2).trans hC.2) (by rw [← heq]; exact (lp_go (by unfold op2; first | rw [if_pos (by omega)] | rw [if_neg (by omega), if_pos (by omega)]) (by decide)).symm)
        · refine f_aload_n hZ dX2_sum_23 rfl ?_
          refine gX2_24 hZ dX2_sum_24 (fun r24 => ?_)
          refine f_bipush hZ dX2_sum_27 ?_
          refine f_ine (tgt := 68) hZ dX2_sum_29 rfl (by omega) (by omega) (fun h29 => ?_) (fun h29 => ?_)
          · exact f_retV hZ hR dX2_sum_68 rfl (by refine ⟨?_, hF0⟩; rw [← heq, eb_id (fun x hx => lp_stop ?_)]; exact hR0; rcases hR0.tk with ⟨_, p, z⟩ | ⟨_, y, z, g2⟩; rw [z] at hx; cases hx; rw [z] at hx; cases hx; unfold op2; rw [if_neg (by omega), if_neg (by omega)])
          · refine f_aload_n hZ dX2_sum_32 rfl ?_
            refine gX2_24 hZ dX2_sum_33 (fun r33 => ?_)
            refine f_bipush hZ dX2_sum_36 ?_
            refine f_ine (tgt := 45) hZ dX2_sum_38 rfl (by omega) (by omega) (fun h38 => ?_) (fun h38 => ?_)
            · refine f_bipush hZ dX2_sum_45 ?_
              refine f_istore_n (L' := [_, _, _, _]) hZ dX2_sum_47 rfl rfl ?_
              have ⟨tk, htk, htk2⟩ : ∃ tk, N 37 6 = tk ∧ (tk = 43 ∨ tk = 45) := ⟨_, rfl, by omega⟩
              obtain ⟨x, rfl, hx1, _⟩ := hR0.ok htk (by omega)
              have hRx := hR0
              have hWx := hW0 x rfl
              have hx2 : ptk x ≠ 258 := by omega
              refine f_aload_n hZ dX2_sum_48 rfl ?_
              refine vX2_46 hZ dX2_sum_49 (c_adv hRx (fun y hy => by cases hy; omega)) (fun M49 h49 => ?_)
              have hA := h49
              refine f_aload_n hZ dX2_sum_52 rfl ?_
              refine f_iload_n hZ dX2_sum_53 rfl ?_
              refine vX2_76 hZ dX2_sum_54 (hO _ _ hA.1 (adv_we hWx hx2)) (fun M54 h54 => ?_)
              have hB := h54
              refine f_aload_n hZ dX2_sum_57 rfl ?_
              refine f_iload_n hZ dX2_sum_58 rfl ?_
              refine vX2_64 hZ dX2_sum_59 (c_emit (fun _ => 0) (by omega) hB.1 (sub_len hf hn hWx hx2)) (fun M59 h59 => ?_)
              have hC := h59
              refine f_iinc (L' := [_, _, _, _]) hZ dX2_sum_62 rfl rfl ?_
              refine f_goto (tgt := 7) hZ dX2_sum_65 rfl ?_
              refine f_forget (L' := [_, _, _, .null]) ⟨Or.inl rfl, Or.inl rfl, Or.inl rfl, Or.inr rfl, trivial⟩ ?_
              first
                | (exfalso; omega)
                | exact ih (i + 1) _ (bn1 B n f (-1) x) (by omega) (by omega) (RS.v hC.1) (bn1_we hf hWx hx2) (((hF0.trans hA.2).trans hB.2).trans hC.2) (by rw [← heq]; exact (lp_go (by unfold op2; first | rw [if_pos (by omega)] | rw [if_neg (by omega), if_pos (by omega)]) (by decide)).symm)
                | exact ih (i + 1) _ (bn1 B n f (-2) x) (by omega) (by omega) (RS.v hC.1) (bn1_we hf hWx hx2) (((hF0.trans hA.2).trans hB.2).trans hC.2) (by rw [← heq]; exact (lp_go (by unfold op2; first | rw [if_pos (by omega)] | rw [if_neg (by omega), if_pos (by omega)]) (by decide)).symm)
            · refine f_iconst hZ dX2_sum_41 ?_
              refine f_goto (tgt := 47) hZ dX2_sum_42 rfl ?_
              refine f_istore_n (L' := [_, _, _, _]) hZ dX2_sum_47 rfl rfl ?_
              have ⟨tk, htk, htk2⟩ : ∃ tk, N 37 6 = tk ∧ (tk = 43 ∨ tk = 45) := ⟨_, rfl, by omega⟩
              obtain ⟨x, rfl, hx1, _⟩ := hR0.ok htk (by omega)
              have hRx := hR0
              have hWx := hW0 x rfl
              have hx2 : ptk x ≠ 258 := by omega
              refine f_aload_n hZ dX2_sum_48 rfl ?_
              refine vX2_46 hZ dX2_sum_49 (c_adv hRx (fun y hy => by cases hy; omega)) (fun M49 h49 => ?_)
              have hA := h49
              refine f_aload_n hZ dX2_sum_52 rfl ?_
              refine f_iload_n hZ dX2_sum_53 rfl ?_
              refine vX2_76 hZ dX2_sum_54 (hO _ _ hA.1 (adv_we hWx hx2)) (fun M54 h54 => ?_)
              have hB := h54
              refine f_aload_n hZ dX2_sum_57 rfl ?_
              refine f_iload_n hZ dX2_sum_58 rfl ?_
              refine vX2_64 hZ dX2_sum_59 (c_emit (fun _ => 0) (by omega) hB.1 (sub_len hf hn hWx hx2)) (fun M59 h59 => ?_)
              have hC := h59
              refine f_iinc (L' := [_, _, _, _]) hZ dX2_sum_62 rfl rfl ?_
              refine f_goto (tgt := 7) hZ dX2_sum_65 rfl ?_
              refine f_forget (L' := [_, _, _, .null]) ⟨Or.inl rfl, Or.inl rfl, Or.inl rfl, Or.inr rfl, trivial⟩ ?_
              first
                | (exfalso; omega)
                | exact ih (i + 1) _ (bn1 B n f (-1) x) (by omega) (by omega) (RS.v hC.1) (bn1_we hf hWx hx2) (((hF0.trans hA.2).trans hB.2).trans hC.2) (by rw [← heq]; exact (lp_go (by unfold op2; first | rw [if_pos (by omega)] | rw [if_neg (by omega), if_pos (by omega)]) (by decide)).symm)
                | exact ih (i + 1) _ (bn1 B n f (-2) x) (by omega) (by omega) (RS.v hC.1) (bn1_we hf hWx hx2) (((hF0.trans hA.2).trans hB.2).trans hC.2) (by rw [← heq]; exact (lp_go (by unfold op2; first | rw [if_pos (by omega)] | rw [if_neg (by omega), if_pos (by omega)]) (by decide)).symm)
  refine f_aload_n hZ dX2_sum_0 rfl ?_
  refine f_iload_n hZ dX2_sum_1 rfl ?_
  refine vX2_76 hZ dX2_sum_2 (hO M e hS hW) (fun M2 h2 => ?_)
  refine f_iconst hZ dX2_sum_5 ?_
  refine f_istore_n (L' := [_, _, _, _]) hZ dX2_sum_6 rfl rfl ?_
  exact loop 160 0 _ _ (by omega) (by omega) h2.1 (we_eb hf hW) h2.2 eb_assoc

set_option maxRecDepth 20000 in
set_option maxHeartbeats 4000000 in
theorem t_X2_both {X : fX} {B : Int → Int} {n t : Int} {d : Nat} {o : Int} (ho : 0 ≤ o ∧ o ≤ 5) (hn : n ≤ 160) {f : pT → pE} (hf : Gd n f) (hO : RC B n t X (d + 11) mX2_negation o f) : RC B n t X (d + 12) mX2_both o (bthF B n f) := by
  intro M e hS hW
  refine fC.of (L := [_, _, _]) (by decide +kernel) rfl (Nat.le_of_ble_eq_true rfl) (fun Z hZ hR => ?_)
  have loop : ∀ (m : Nat) (i : Int) (N : fM) (e1 : pE), i + m = 160 → 0 ≤ i → RS B n t e1 N → WE n e1 → rF t M N → eb e1 (lp B n f op6 m) = eb e (bthF B n f) → fG X mX2_both Z 7 [.ref (xa X 37), .int (iv o), .int (iv i)] [] N := by
    intro m
    induction m with
    | zero =>
      intro i N e1 him hi0 hR0 hW0 hF0 heq
      refine f_iload_n hZ dX2_both_7 rfl ?_
      refine f_sipush hZ dX2_both_8 ?_
      refine f_ige (tgt := 45) hZ dX2_both_11 rfl (by omega) (by omega) (fun h11 => ?_) (fun h11 => ?_)
      · exact f_retV hZ hR dX2_both_45 rfl (by have hid : eb e1 (lp B n f op6 0) = e1 := eb_id (fun x _ => rfl); rw [hid] at heq; exact ⟨by rw [← heq]; exact hR0, hF0⟩)
      · exfalso; omega
    | succ m ih =>
      intro i N e1 him hi0 hR0 hW0 hF0 heq
      refine f_iload_n hZ dX2_both_7 rfl ?_
      refine f_sipush hZ dX2_both_8 ?_
      refine f_ige (tgt := 45) hZ dX2_both_11 rfl (by omega) (by omega) (fun h11 => ?_) (fun h11 => ?_)
      · exfalso; omega
      · refine f_aload_n hZ dX2_both_14 rfl ?_
        refine gX2_24 hZ dX2_both_15 (fun r15 => ?_)
        refine f_sipush hZ dX2_both_18 ?_
        refine f_ine (tgt := 45) hZ dX2_both_21 rfl (by omega) (by omega) (fun h21 => ?_) (fun h21 => ?_)
        · exact f_retV hZ hR dX2_both_45 rfl (by refine ⟨?_, hF0⟩; rw [← heq, eb_id (fun x hx => lp_stop ?_)]; exact hR0; rcases hR0.tk with ⟨_, p, z⟩ | ⟨_, y, z, g2⟩; rw [z] at hx; cases hx; rw [z] at hx; cases hx; unfold op6; rw [if_neg (by omega)])
        · have ⟨tk, htk, htk2⟩ : ∃ tk, N 37 6 = tk ∧ (tk = 264) := ⟨_, rfl, by omega⟩
          obtain ⟨x, rfl, hx1, _⟩ := hR0.ok htk (by omega)
          have hRx := hR0
          have hWx := hW0 x rfl
          have hx2 : ptk x ≠ 258 := by omega
          refine f_aload_n hZ dX2_both_24 rfl ?_
          refine vX2_46 hZ dX2_both_25 (c_adv hRx (fun y hy => by cases hy; omega)) (fun M25 h25 => ?_)
          have hA := h25
          refine f_aload_n hZ dX2_both_28 rfl ?_
          refine f_iload_n hZ dX2_both_29 rfl ?_
          refine vX2_67 hZ dX2_both_30 (hO _ _ hA.1 (adv_we hWx hx2)) (fun M30 h30 => ?_)
          have hB := h30
          refine f_aload_n hZ dX2_both_33 rfl ?_
          refine f_bipush hZ dX2_both_34 ?_
          refine vX2_64 hZ dX2_both_36 (c_emit (fun _ => 0) (by omega) hB.1 (sub_len hf hn hWx hx2)) (fun M36 h36 => ?_)
          have hC := h36
          refine f_iinc (L' := [_, _, _]) hZ dX2_both_39 rfl rfl ?_
          refine f_goto (tgt := 7) hZ dX2_both_42 rfl ?_
          first
            | exact ih (i + 1) _ (bn1 B n f (-6) x) (by omega) (by omega) (RS.v hC.1) (bn1_we hf hWx hx2) (((hF0.trans hA.2).trans hB.2).trans hC.2) (by rw [← heq]; exact (lp_go (by unfold op6; rw [if_pos (by omega)]) (by decide)).symm)
  refine f_aload_n hZ dX2_both_0 rfl ?_
  refine f_iload_n hZ dX2_both_1 rfl ?_
  refine vX2_67 hZ dX2_both_2 (hO M e hS hW) (fun M2 h2 => ?_)
  refine f_iconst hZ dX2_both_5 ?_
  refine f_istore_n (L' := [_, _, _]) hZ dX2_both_6 rfl rfl ?_
  exact loop 160 0 _ _ (by omega) (by omega) h2.1 (we_eb hf hW) h2.2 eb_assoc

set_option maxRecDepth 20000 in
set_option maxHeartbeats 4000000 in
theorem t_X2_either {X : fX} {B : Int → Int} {n t : Int} {d : Nat} {o : Int} (ho : 0 ≤ o ∧ o ≤ 5) (hn : n ≤ 160) {f : pT → pE} (hf : Gd n f) (hO : RC B n t X (d + 12) mX2_both o f) : RC B n t X (d + 13) mX2_either o (lpF B n op7 f) := by
  intro M e hS hW
  refine fC.of (L := [_, _, _]) (by decide +kernel) rfl (Nat.le_of_ble_eq_true rfl) (fun Z hZ hR => ?_)
  have loop : ∀ (m : Nat) (i : Int) (N : fM) (e1 : pE), i + m = 160 → 0 ≤ i → RS B n t e1 N → WE n e1 → rF t M N → eb e1 (lp B n f op7 m) = eb e (lpF B n op7 f) → fG X mX2_either Z 7 [.ref (xa X 37), .int (iv o), .int (iv i)] [] N := by
    intro m
    induction m with
    | zero =>
      intro i N e1 him hi0 hR0 hW0 hF0 heq
      refine f_iload_n hZ dX2_either_7 rfl ?_
      refine f_sipush hZ dX2_either_8 ?_
      refine f_ige (tgt := 45) hZ dX2_either_11 rfl (by omega) (by omega) (fun h11 => ?_) (fun h11 => ?_)
      · exact f_retV hZ hR dX2_either_45 rfl (by have hid : eb e1 (lp B n f op7 0) = e1 := eb_id (fun x _ => rfl); rw [hid] at heq; exact ⟨by rw [← heq]; exact hR0, hF0⟩)
      · exfalso; omega
    | succ m ih =>
      intro i N e1 him hi0 hR0 hW0 hF0 heq
      refine f_iload_n hZ dX2_either_7 rfl ?_
      refine f_sipush hZ dX2_either_8 ?_
      refine f_ige (tgt := 45) hZ dX2_either_11 rfl (by omega) (by omega) (fun h11 => ?_) (fun h11 => ?_)
      · exfalso; omega
      · refine f_aload_n hZ dX2_either_14 rfl ?_
        refine gX2_24 hZ dX2_either_15 (fun r15 => ?_)
        refine f_sipush hZ dX2_either_18 ?_
        refine f_ine (tgt := 45) hZ dX2_either_21 rfl (by omega) (by omega) (fun h21 => ?_) (fun h21 => ?_)
        · exact f_retV hZ hR dX2_either_45 rfl (by refine ⟨?_, hF0⟩; rw [← heq, eb_id (fun x hx => lp_stop ?_)]; exact hR0; rcases hR0.tk with ⟨_, p, z⟩ | ⟨_, y, z, g2⟩; rw [z] at hx; cases hx; rw [z] at hx; cases hx; unfold op7; rw [if_neg (by omega)])
        · have ⟨tk, htk, htk2⟩ : ∃ tk, N 37 6 = tk ∧ (tk = 263) := ⟨_, rfl, by omega⟩
          obtain ⟨x, rfl, hx1, _⟩ := hR0.ok htk (by omega)
          have hRx := hR0
          have hWx := hW0 x rfl
          have hx2 : ptk x ≠ 258 := by omega
          refine f_aload_n hZ dX2_either_24 rfl ?_
          refine vX2_46 hZ dX2_either_25 (c_adv hRx (fun y hy => by cases hy; omega)) (fun M25 h25 => ?_)
          have hA := h25
          refine f_aload_n hZ dX2_either_28 rfl ?_
          refine f_iload_n hZ dX2_either_29 rfl ?_
          refine vX2_59 hZ dX2_either_30 (hO _ _ hA.1 (adv_we hWx hx2)) (fun M30 h30 => ?_)
          have hB := h30
          refine f_aload_n hZ dX2_either_33 rfl ?_
          refine f_bipush hZ dX2_either_34 ?_
          refine vX2_64 hZ dX2_either_36 (c_emit (fun _ => 0) (by omega) hB.1 (sub_len hf hn hWx hx2)) (fun M36 h36 => ?_)
          have hC := h36
          refine f_iinc (L' := [_, _, _]) hZ dX2_either_39 rfl rfl ?_
          refine f_goto (tgt := 7) hZ dX2_either_42 rfl ?_
          first
            | exact ih (i + 1) _ (bn1 B n f (-7) x) (by omega) (by omega) (RS.v hC.1) (bn1_we hf hWx hx2) (((hF0.trans hA.2).trans hB.2).trans hC.2) (by rw [← heq]; exact (lp_go (by unfold op7; rw [if_pos (by omega)]) (by decide)).symm)
  refine f_aload_n hZ dX2_either_0 rfl ?_
  refine f_iload_n hZ dX2_either_1 rfl ?_
  refine vX2_59 hZ dX2_either_2 (hO M e hS hW) (fun M2 h2 => ?_)
  refine f_iconst hZ dX2_either_5 ?_
  refine f_istore_n (L' := [_, _, _]) hZ dX2_either_6 rfl rfl ?_
  exact loop 160 0 _ _ (by omega) (by omega) h2.1 (we_eb hf hW) h2.2 eb_assoc

set_option maxRecDepth 20000 in
set_option maxHeartbeats 4000000 in
theorem t_X2_deny_0 {X : fX} {B : Int → Int} {n t : Int} {d : Nat} {o : Int} (ho : o = 5) {M : fM} {x : pT} (hS : RS B n t (.ok x) M) : fC X (d + 10) mX2_deny [.ref (xa X 37), .int (iv o)] M (QV fun K => RS B n t (.error (pat x)) K ∧ rF t M K) := by
  refine fC.of (L := [_, _]) (by decide +kernel) rfl (Nat.le_of_ble_eq_true rfl) (fun Z hZ hR => ?_)
  refine f_iload_n hZ dX2_deny_0 rfl ?_
  refine f_iconst hZ dX2_deny_1 ?_
  refine f_ilt (tgt := 10) hZ dX2_deny_2 rfl (by omega) (by omega) (fun h2 => ?_) (fun h2 => ?_)
  · exfalso; omega
  · refine f_aload_n hZ dX2_deny_5 rfl ?_
    refine vX2_56 hZ dX2_deny_6 (c_fail hS) (fun M6 h6 => ?_)
    exact f_retV hZ hR dX2_deny_9 rfl (by exact h6)

set_option maxRecDepth 20000 in
set_option maxHeartbeats 4000000 in
theorem t_X2_deny_s {X : fX} {B : Int → Int} {n t : Int} {d : Nat} {o : Int} (ho : 0 ≤ o ∧ o ≤ 4) (hn : n ≤ 160) {h : pT → pE} (hf : Gd n h) (hN : RC B n t X (d + 9) mX2_negation (o + 1) h) {M : fM} {x : pT} (hS : RS B n t (.ok x) M) (hW : WfX n x) (hx : ptk x ≠ 258) : fC X (d + 10) mX2_deny [.ref (xa X 37), .int (iv o)] M (QV fun K => RS B n t (un1 B n h (-8) notZ x) K ∧ rF t M K) := by
  refine fC.of (L := [_, _]) (by decide +kernel) rfl (Nat.le_of_ble_eq_true rfl) (fun Z hZ hR => ?_)
  refine f_iload_n hZ dX2_deny_0 rfl ?_
  refine f_iconst hZ dX2_deny_1 ?_
  refine f_ilt (tgt := 10) hZ dX2_deny_2 rfl (by omega) (by omega) (fun h2 => ?_) (fun h2 => ?_)
  · refine f_aload_n hZ dX2_deny_10 rfl ?_
    refine vX2_46 hZ dX2_deny_11 (c_adv hS (fun y hy => by cases hy; exact hx)) (fun M11 h11 => ?_)
    refine f_aload_n hZ dX2_deny_14 rfl ?_
    refine f_iload_n hZ dX2_deny_15 rfl ?_
    refine f_iconst hZ dX2_deny_16 ?_
    refine f_iadd hZ dX2_deny_17 ?_
    refine vX2_67 hZ dX2_deny_18 (hN _ _ h11.1 (adv_we hW hx)) (fun M18 h18 => ?_)
    refine f_aload_n hZ dX2_deny_21 rfl ?_
    refine f_bipush hZ dX2_deny_22 ?_
    refine vX2_64 hZ dX2_deny_24 (c_emit (fun _ => 0) (by omega) h18.1 (sub_len hf hn hW hx)) (fun M24 h24 => ?_)
    exact f_retV hZ hR dX2_deny_27 rfl (by exact ⟨RS.v h24.1, (h11.2.trans h18.2).trans h24.2⟩)
  · exfalso; omega

def cmG (B : Int → Int) (n : Int) (T : pT → pE) (y : pT) : pE := if ptk y = 60 then bn1 B n T (-4) y else if ptk y = 61 then bn1 B n T (-5) y else .ok y
def negG (B : Int → Int) (n : Int) (T g : pT → pE) (x : pT) : pE := if ptk x = 265 then g x else eb (T x) (cmG B n T)
set_option maxRecDepth 20000 in
set_option maxHeartbeats 4000000 in
theorem t_X2_negation {X : fX} {B : Int → Int} {n t : Int} {d : Nat} {o : Int} (ho : 0 ≤ o ∧ o ≤ 5) (hn : n ≤ 160) {T g : pT → pE} (hf : Gd n T) (hT : RC B n t X (d + 10) mX2_sum o T) (hD : ∀ (M : fM) (x : pT), RS B n t (.ok x) M → WfX n x → ptk x = 265 → fC X (d + 10) mX2_deny [.ref (xa X 37), .int (iv o)] M (QV fun K => RS B n t (g x) K ∧ rF t M K)) : RC B n t X (d + 11) mX2_negation o (negG B n T g) := by
  intro M e hS hW
  refine fC.of (L := [_, _, _]) (by decide +kernel) rfl (Nat.le_of_ble_eq_true rfl) (fun Z hZ hR => ?_)
  refine f_aload_n hZ dX2_negation_0 rfl ?_
  refine gX2_24 hZ dX2_negation_1 (fun r1 => ?_)
  refine f_sipush hZ dX2_negation_4 ?_
  refine f_ine (tgt := 16) hZ dX2_negation_7 rfl (by omega) (by omega) (fun h7 => ?_) (fun h7 => ?_)
  · have hne : eb e (negG B n T g) = eb (eb e T) (cmG B n T) := by
      rw [eb_assoc]
      rcases hS.tk with ⟨_, p, z⟩ | ⟨_, y, z, g2⟩
      · rw [z]; rfl
      · rw [z]; exact if_neg (by omega)
    rw [hne] at hR
    refine f_aload_n hZ dX2_negation_16 rfl ?_
    refine f_iload_n hZ dX2_negation_17 rfl ?_
    refine vX2_73 hZ dX2_negation_18 (hT M e hS hW) (fun M18 h18 => ?_)
    refine f_aload_n hZ dX2_negation_21 rfl ?_
    refine gX2_24 hZ dX2_negation_22 (fun r22 => ?_)
    try simp only [up_app, Nat.reduceEqDiff, Nat.reduceEqDiff, Int.reduceEq, and_true, true_and, and_false, false_and, if_true, if_false, reduceIte] at r22 ⊢
    refine f_istore_n (L' := [_, _, _]) hZ dX2_negation_25 rfl rfl ?_
    refine f_iload_n hZ dX2_negation_26 rfl ?_
    refine f_bipush hZ dX2_negation_27 ?_
    refine f_ieq (tgt := 38) hZ dX2_negation_29 rfl (by omega) (by omega) (fun h29 => ?_) (fun h29 => ?_)
    · have ⟨tk, htk, htk2⟩ : ∃ tk, M18 37 6 = tk ∧ (tk = 60 ∨ tk = 61) := ⟨_, rfl, by omega⟩
      have hT2 := h18.1.ok htk (by omega)
      obtain ⟨x, hxe, hx1, _⟩ := hT2
      have hWx : WfX n x := we_eb hf hW x hxe
      have hRx := h18.1
      rw [hxe] at hRx hR
      have hx2 : ptk x ≠ 258 := by omega
      refine f_aload_n hZ dX2_negation_38 rfl ?_
      refine vX2_46 hZ dX2_negation_39 (c_adv hRx (fun y hy => by cases hy; omega)) (fun M39 h39 => ?_)
      refine f_aload_n hZ dX2_negation_42 rfl ?_
      refine f_iload_n hZ dX2_negation_43 rfl ?_
      refine vX2_73 hZ dX2_negation_44 (hT _ _ h39.1 (adv_we hWx hx2)) (fun M44 h44 => ?_)
      refine f_aload_n hZ dX2_negation_47 rfl ?_
      refine f_iload_n hZ dX2_negation_48 rfl ?_
      refine f_bipush hZ dX2_negation_49 ?_
      refine f_ine (tgt := 59) hZ dX2_negation_51 rfl (by omega) (by omega) (fun h51 => ?_) (fun h51 => ?_)
      · refine f_bipush hZ dX2_negation_59 ?_
        refine vX2_64 hZ dX2_negation_61 (c_emit (fun _ => 0) (by omega) h44.1 (sub_len hf hn hWx hx2)) (fun M61 h61 => ?_)
        exact f_retV hZ hR dX2_negation_64 rfl (by first | (refine ⟨?_, h18.2⟩; rw [eb_id (fun y hy => ?_)]; exact h18.1; rcases h18.1.tk with ⟨_, p, z⟩ | ⟨_, y2, z, g2⟩; rw [z] at hy; cases hy; rw [z] at hy; cases hy; unfold cmG; rw [if_neg (by omega), if_neg (by omega)]) | (refine ⟨?_, ((h18.2.trans h39.2).trans h44.2).trans h61.2⟩; show RS B n t (cmG B n T x) _; unfold cmG; first | (rw [if_pos (by omega)]; exact RS.v h61.1) | (rw [if_neg (by omega), if_pos (by omega)]; exact RS.v h61.1) | (exfalso; omega)))
      · refine f_bipush hZ dX2_negation_54 ?_
        refine f_goto (tgt := 61) hZ dX2_negation_56 rfl ?_
        refine vX2_64 hZ dX2_negation_61 (c_emit (fun _ => 0) (by omega) h44.1 (sub_len hf hn hWx hx2)) (fun M61 h61 => ?_)
        exact f_retV hZ hR dX2_negation_64 rfl (by first | (refine ⟨?_, h18.2⟩; rw [eb_id (fun y hy => ?_)]; exact h18.1; rcases h18.1.tk with ⟨_, p, z⟩ | ⟨_, y2, z, g2⟩; rw [z] at hy; cases hy; rw [z] at hy; cases hy; unfold cmG; rw [if_neg (by omega), if_neg (by omega)]) | (refine ⟨?_, ((h18.2.trans h39.2).trans h44.2).trans h61.2⟩; show RS B n t (cmG B n T x) _; unfold cmG; first | (rw [if_pos (by omega)]; exact RS.v h61.1) | (rw [if_neg (by omega), if_pos (by omega)]; exact RS.v h61.1) | (exfalso; omega)))
    · refine f_iload_n hZ dX2_negation_32 rfl ?_
      refine f_bipush hZ dX2_negation_33 ?_
      refine f_ine (tgt := 64) hZ dX2_negation_35 rfl (by omega) (by omega) (fun h35 => ?_) (fun h35 => ?_)
      · exact f_retV hZ hR dX2_negation_64 rfl (by first | (refine ⟨?_, h18.2⟩; rw [eb_id (fun y hy => ?_)]; exact h18.1; rcases h18.1.tk with ⟨_, p, z⟩ | ⟨_, y2, z, g2⟩; rw [z] at hy; cases hy; rw [z] at hy; cases hy; unfold cmG; rw [if_neg (by omega), if_neg (by omega)]) | (refine ⟨?_, ((h18.2.trans h39.2).trans h44.2).trans h61.2⟩; show RS B n t (cmG B n T x) _; unfold cmG; first | (rw [if_pos (by omega)]; exact RS.v h61.1) | (rw [if_neg (by omega), if_pos (by omega)]; exact RS.v h61.1) | (exfalso; omega)))
      · have ⟨tk, htk, htk2⟩ : ∃ tk, M18 37 6 = tk ∧ (tk = 60 ∨ tk = 61) := ⟨_, rfl, by omega⟩
        have hT2 := h18.1.ok htk (by omega)
        obtain ⟨x, hxe, hx1, _⟩ := hT2
        have hWx : WfX n x := we_eb hf hW x hxe
        have hRx := h18.1
        rw [hxe] at hRx hR
        have hx2 : ptk x ≠ 258 := by omega
        refine f_aload_n hZ dX2_negation_38 rfl ?_
        refine vX2_46 hZ dX2_negation_39 (c_adv hRx (fun y hy => by cases hy; omega)) (fun M39 h39 => ?_)
        refine f_aload_n hZ dX2_negation_42 rfl ?_
        refine f_iload_n hZ dX2_negation_43 rfl ?_
        refine vX2_73 hZ dX2_negation_44 (hT _ _ h39.1 (adv_we hWx hx2)) (fun M44 h44 => ?_)
        refine f_aload_n hZ dX2_negation_47 rfl ?_
        refine f_iload_n hZ dX2_negation_48 rfl ?_
        refine f_bipush hZ dX2_negation_49 ?_
        refine f_ine (tgt := 59) hZ dX2_negation_51 rfl (by omega) (by omega) (fun h51 => ?_) (fun h51 => ?_)
        · refine f_bipush hZ dX2_negation_59 ?_
          refine vX2_64 hZ dX2_negation_61 (c_emit (fun _ => 0) (by omega) h44.1 (sub_len hf hn hWx hx2)) (fun M61 h61 => ?_)
          exact f_retV hZ hR dX2_negation_64 rfl (by first | (refine ⟨?_, h18.2⟩; rw [eb_id (fun y hy => ?_)]; exact h18.1; rcases h18.1.tk with ⟨_, p, z⟩ | ⟨_, y2, z, g2⟩; rw [z] at hy; cases hy; rw [z] at hy; cases hy; unfold cmG; rw [if_neg (by omega), if_neg (by omega)]) | (refine ⟨?_, ((h18.2.trans h39.2).trans h44.2).trans h61.2⟩; show RS B n t (cmG B n T x) _; unfold cmG; first | (rw [if_pos (by omega)]; exact RS.v h61.1) | (rw [if_neg (by omega), if_pos (by omega)]; exact RS.v h61.1) | (exfalso; omega)))
        · refine f_bipush hZ dX2_negation_54 ?_
          refine f_goto (tgt := 61) hZ dX2_negation_56 rfl ?_
          refine vX2_64 hZ dX2_negation_61 (c_emit (fun _ => 0) (by omega) h44.1 (sub_len hf hn hWx hx2)) (fun M61 h61 => ?_)
          exact f_retV hZ hR dX2_negation_64 rfl (by first | (refine ⟨?_, h18.2⟩; rw [eb_id (fun y hy => ?_)]; exact h18.1; rcases h18.1.tk with ⟨_, p, z⟩ | ⟨_, y2, z, g2⟩; rw [z] at hy; cases hy; rw [z] at hy; cases hy; unfold cmG; rw [if_neg (by omega), if_neg (by omega)]) | (refine ⟨?_, ((h18.2.trans h39.2).trans h44.2).trans h61.2⟩; show RS B n t (cmG B n T x) _; unfold cmG; first | (rw [if_pos (by omega)]; exact RS.v h61.1) | (rw [if_neg (by omega), if_pos (by omega)]; exact RS.v h61.1) | (exfalso; omega)))
  · obtain ⟨x, rfl, hx1, _⟩ := hS.ok h7 (by omega)
    refine f_aload_n hZ dX2_negation_10 rfl ?_
    refine f_iload_n hZ dX2_negation_11 rfl ?_
    refine vX2_70 hZ dX2_negation_12 (hD M x hS (hW x rfl) hx1) (fun M12 h12 => ?_)
    exact f_retV hZ hR dX2_negation_15 rfl (by exact ⟨by show RS B n t (if ptk x = 265 then g x else _) _; rw [if_pos hx1]; exact h12.1, h12.2⟩)

set_option maxRecDepth 20000 in
set_option maxHeartbeats 4000000 in
theorem t_X2_one_0 {X : fX} {B : Int → Int} {n t : Int} {d : Nat} {o : Int} (ho : o = 5) (hn : n ≤ 160)  : RC B n t X (d + 14) mX2_one o (oneF B n none) := by
  intro M e hS hW
  refine fC.of (L := [_, _]) (by decide +kernel) rfl (Nat.le_of_ble_eq_true rfl) (fun Z hZ hR => ?_)
  refine f_aload_n hZ dX2_one_0 rfl ?_
  refine gX2_24 hZ dX2_one_1 (fun r1 => ?_)
  refine f_sipush hZ dX2_one_4 ?_
  refine f_ieq (tgt := 20) hZ dX2_one_7 rfl (by omega) (by omega) (fun h7 => ?_) (fun h7 => ?_)
  · have ⟨tk, htk, htk2⟩ : ∃ tk, M 37 6 = tk ∧ (tk = 256 ∨ tk = 257) := ⟨_, rfl, by omega⟩
    obtain ⟨x, rfl, hx1, hx3⟩ := hS.ok htk (by omega)
    have hx3 := hx3 htk2
    have hWx := hW x rfl
    have hlen : (pcd x).length < 160 := by
      have h1 := hWx.2.2.1 (by omega)
      have h2 := hWx.2.2.2.2.2.1
      omega
    have hv4 := hWx.2.2.2.1
    have hv5 := hWx.2.2.2.2.1
    refine f_aload_n hZ dX2_one_20 rfl ?_
    refine f_aload_n hZ dX2_one_21 rfl ?_
    refine gX2_24 hZ dX2_one_22 (fun r22 => ?_)
    refine f_sipush hZ dX2_one_25 ?_
    refine f_ine (tgt := 38) hZ dX2_one_28 rfl (by omega) (by omega) (fun h28 => ?_) (fun h28 => ?_)
    · refine f_sipush hZ dX2_one_38 ?_
      refine f_aload_n hZ dX2_one_41 rfl ?_
      refine gX2_27 hZ dX2_one_42 (fun r42 => ?_)
      refine f_iadd hZ dX2_one_45 ?_
      refine vX2_64 hZ dX2_one_46 (c_emit (fun nm => if ptk x = 256 then pvl x else nm (pvl x)) (by omega) hS (fun y hy => by cases hy; exact hlen)) (fun M46 h46 => ?_)
      refine f_aload_n hZ dX2_one_49 rfl ?_
      refine vX2_46 hZ dX2_one_50 (c_adv h46.1 (fun y hy => by cases hy; show ptk x ≠ 258; omega)) (fun M50 h50 => ?_)
      refine f_goto (tgt := 130) hZ dX2_one_53 rfl ?_
      exact f_retV hZ hR dX2_one_130 rfl (by first | (exfalso; omega) | (refine ⟨?_, h46.2.trans h50.2⟩; show RS B n t (oneF B n none x) _; unfold oneF; rw [if_pos (by omega)]; have h50 := h50.1; rw [hx3] at h50; unfold onN; first | (rw [if_pos (show ptk x = 256 by omega)]; exact h50) | (rw [if_neg (show ¬ ptk x = 256 by omega)]; exact h50)) | (refine ⟨?_, h62.2⟩; have hh := h62.1; rcases hS.tk with ⟨_, p, rfl⟩ | ⟨_, y, rfl, g2⟩; exact hh; show RS B n t (oneF B n none y) _; unfold oneF; rw [if_neg (by omega)]; first | exact hh | (show RS B n t (if ptk y = 45 then _ else if ptk y = 40 then _ else .error (pat y)) _; rw [if_neg (by omega), if_neg (by omega)]; exact hh)) | (refine ⟨?_, h127.2⟩; have hh := h127.1; rcases hS.tk with ⟨_, p, rfl⟩ | ⟨_, y, rfl, g2⟩; exact hh; show RS B n t (oneF B n none y) _; unfold oneF; rw [if_neg (by omega)]; first | exact hh | (show RS B n t (if ptk y = 45 then _ else if ptk y = 40 then _ else .error (pat y)) _; rw [if_neg (by omega), if_neg (by omega)]; exact hh)) | (refine ⟨?_, (h78.2.trans h85.2).trans h91.2⟩; show RS B n t (oneF B n none x) _; unfold oneF; rw [if_neg (by omega)]; show RS B n t (if ptk x = 45 then _ else _) _; rw [if_pos hx1]; exact RS.v h91.1) | (refine ⟨?_, (h107.2.trans h114.2).trans h120.2⟩; show RS B n t (oneF B n none x) _; unfold oneF; rw [if_neg (by omega)]; show RS B n t (if ptk x = 45 then _ else if ptk x = 40 then _ else _) _; rw [if_neg (by omega), if_pos hx1]; exact h120.1))
    · refine f_aload_n hZ dX2_one_31 rfl ?_
      refine gX2_27 hZ dX2_one_32 (fun r32 => ?_)
      refine f_goto (tgt := 46) hZ dX2_one_35 rfl ?_
      refine vX2_64 hZ dX2_one_46 (c_emit (fun nm => if ptk x = 256 then pvl x else nm (pvl x)) (by omega) hS (fun y hy => by cases hy; exact hlen)) (fun M46 h46 => ?_)
      refine f_aload_n hZ dX2_one_49 rfl ?_
      refine vX2_46 hZ dX2_one_50 (c_adv h46.1 (fun y hy => by cases hy; show ptk x ≠ 258; omega)) (fun M50 h50 => ?_)
      refine f_goto (tgt := 130) hZ dX2_one_53 rfl ?_
      exact f_retV hZ hR dX2_one_130 rfl (by first | (exfalso; omega) | (refine ⟨?_, h46.2.trans h50.2⟩; show RS B n t (oneF B n none x) _; unfold oneF; rw [if_pos (by omega)]; have h50 := h50.1; rw [hx3] at h50; unfold onN; first | (rw [if_pos (show ptk x = 256 by omega)]; exact h50) | (rw [if_neg (show ¬ ptk x = 256 by omega)]; exact h50)) | (refine ⟨?_, h62.2⟩; have hh := h62.1; rcases hS.tk with ⟨_, p, rfl⟩ | ⟨_, y, rfl, g2⟩; exact hh; show RS B n t (oneF B n none y) _; unfold oneF; rw [if_neg (by omega)]; first | exact hh | (show RS B n t (if ptk y = 45 then _ else if ptk y = 40 then _ else .error (pat y)) _; rw [if_neg (by omega), if_neg (by omega)]; exact hh)) | (refine ⟨?_, h127.2⟩; have hh := h127.1; rcases hS.tk with ⟨_, p, rfl⟩ | ⟨_, y, rfl, g2⟩; exact hh; show RS B n t (oneF B n none y) _; unfold oneF; rw [if_neg (by omega)]; first | exact hh | (show RS B n t (if ptk y = 45 then _ else if ptk y = 40 then _ else .error (pat y)) _; rw [if_neg (by omega), if_neg (by omega)]; exact hh)) | (refine ⟨?_, (h78.2.trans h85.2).trans h91.2⟩; show RS B n t (oneF B n none x) _; unfold oneF; rw [if_neg (by omega)]; show RS B n t (if ptk x = 45 then _ else _) _; rw [if_pos hx1]; exact RS.v h91.1) | (refine ⟨?_, (h107.2.trans h114.2).trans h120.2⟩; show RS B n t (oneF B n none x) _; unfold oneF; rw [if_neg (by omega)]; show RS B n t (if ptk x = 45 then _ else if ptk x = 40 then _ else _) _; rw [if_neg (by omega), if_pos hx1]; exact h120.1))
  · refine f_aload_n hZ dX2_one_10 rfl ?_
    refine gX2_24 hZ dX2_one_11 (fun r11 => ?_)
    refine f_sipush hZ dX2_one_14 ?_
    refine f_ine (tgt := 56) hZ dX2_one_17 rfl (by omega) (by omega) (fun h17 => ?_) (fun h17 => ?_)
    · refine f_iload_n hZ dX2_one_56 rfl ?_
      refine f_iconst hZ dX2_one_57 ?_
      refine f_ilt (tgt := 68) hZ dX2_one_58 rfl (by omega) (by omega) (fun h58 => ?_) (fun h58 => ?_)
      · exfalso; omega
      · refine f_aload_n hZ dX2_one_61 rfl ?_
        refine vX2_56 hZ dX2_one_62 (c_fail hS) (fun M62 h62 => ?_)
        refine f_goto (tgt := 130) hZ dX2_one_65 rfl ?_
        exact f_retV hZ hR dX2_one_130 rfl (by first | (exfalso; omega) | (refine ⟨?_, h46.2.trans h50.2⟩; show RS B n t (oneF B n none x) _; unfold oneF; rw [if_pos (by omega)]; have h50 := h50.1; rw [hx3] at h50; unfold onN; first | (rw [if_pos (show ptk x = 256 by omega)]; exact h50) | (rw [if_neg (show ¬ ptk x = 256 by omega)]; exact h50)) | (refine ⟨?_, h62.2⟩; have hh := h62.1; rcases hS.tk with ⟨_, p, rfl⟩ | ⟨_, y, rfl, g2⟩; exact hh; show RS B n t (oneF B n none y) _; unfold oneF; rw [if_neg (by omega)]; first | exact hh | (show RS B n t (if ptk y = 45 then _ else if ptk y = 40 then _ else .error (pat y)) _; rw [if_neg (by omega), if_neg (by omega)]; exact hh)) | (refine ⟨?_, h127.2⟩; have hh := h127.1; rcases hS.tk with ⟨_, p, rfl⟩ | ⟨_, y, rfl, g2⟩; exact hh; show RS B n t (oneF B n none y) _; unfold oneF; rw [if_neg (by omega)]; first | exact hh | (show RS B n t (if ptk y = 45 then _ else if ptk y = 40 then _ else .error (pat y)) _; rw [if_neg (by omega), if_neg (by omega)]; exact hh)) | (refine ⟨?_, (h78.2.trans h85.2).trans h91.2⟩; show RS B n t (oneF B n none x) _; unfold oneF; rw [if_neg (by omega)]; show RS B n t (if ptk x = 45 then _ else _) _; rw [if_pos hx1]; exact RS.v h91.1) | (refine ⟨?_, (h107.2.trans h114.2).trans h120.2⟩; show RS B n t (oneF B n none x) _; unfold oneF; rw [if_neg (by omega)]; show RS B n t (if ptk x = 45 then _ else if ptk x = 40 then _ else _) _; rw [if_neg (by omega), if_pos hx1]; exact h120.1))
    · have ⟨tk, htk, htk2⟩ : ∃ tk, M 37 6 = tk ∧ (tk = 256 ∨ tk = 257) := ⟨_, rfl, by omega⟩
      obtain ⟨x, rfl, hx1, hx3⟩ := hS.ok htk (by omega)
      have hx3 := hx3 htk2
      have hWx := hW x rfl
      have hlen : (pcd x).length < 160 := by
        have h1 := hWx.2.2.1 (by omega)
        have h2 := hWx.2.2.2.2.2.1
        omega
      have hv4 := hWx.2.2.2.1
      have hv5 := hWx.2.2.2.2.1
      refine f_aload_n hZ dX2_one_20 rfl ?_
      refine f_aload_n hZ dX2_one_21 rfl ?_
      refine gX2_24 hZ dX2_one_22 (fun r22 => ?_)
      refine f_sipush hZ dX2_one_25 ?_
      refine f_ine (tgt := 38) hZ dX2_one_28 rfl (by omega) (by omega) (fun h28 => ?_) (fun h28 => ?_)
      · refine f_sipush hZ dX2_one_38 ?_
        refine f_aload_n hZ dX2_one_41 rfl ?_
        refine gX2_27 hZ dX2_one_42 (fun r42 => ?_)
        refine f_iadd hZ dX2_one_45 ?_
        refine vX2_64 hZ dX2_one_46 (c_emit (fun nm => if ptk x = 256 then pvl x else nm (pvl x)) (by omega) hS (fun y hy => by cases hy; exact hlen)) (fun M46 h46 => ?_)
        refine f_aload_n hZ dX2_one_49 rfl ?_
        refine vX2_46 hZ dX2_one_50 (c_adv h46.1 (fun y hy => by cases hy; show ptk x ≠ 258; omega)) (fun M50 h50 => ?_)
        refine f_goto (tgt := 130) hZ dX2_one_53 rfl ?_
        exact f_retV hZ hR dX2_one_130 rfl (by first | (exfalso; omega) | (refine ⟨?_, h46.2.trans h50.2⟩; show RS B n t (oneF B n none x) _; unfold oneF; rw [if_pos (by omega)]; have h50 := h50.1; rw [hx3] at h50; unfold onN; first | (rw [if_pos (show ptk x = 256 by omega)]; exact h50) | (rw [if_neg (show ¬ ptk x = 256 by omega)]; exact h50)) | (refine ⟨?_, h62.2⟩; have hh := h62.1; rcases hS.tk with ⟨_, p, rfl⟩ | ⟨_, y, rfl, g2⟩; exact hh; show RS B n t (oneF B n none y) _; unfold oneF; rw [if_neg (by omega)]; first | exact hh | (show RS B n t (if ptk y = 45 then _ else if ptk y = 40 then _ else .error (pat y)) _; rw [if_neg (by omega), if_neg (by omega)]; exact hh)) | (refine ⟨?_, h127.2⟩; have hh := h127.1; rcases hS.tk with ⟨_, p, rfl⟩ | ⟨_, y, rfl, g2⟩; exact hh; show RS B n t (oneF B n none y) _; unfold oneF; rw [if_neg (by omega)]; first | exact hh | (show RS B n t (if ptk y = 45 then _ else if ptk y = 40 then _ else .error (pat y)) _; rw [if_neg (by omega), if_neg (by omega)]; exact hh)) | (refine ⟨?_, (h78.2.trans h85.2).trans h91.2⟩; show RS B n t (oneF B n none x) _; unfold oneF; rw [if_neg (by omega)]; show RS B n t (if ptk x = 45 then _ else _) _; rw [if_pos hx1]; exact RS.v h91.1) | (refine ⟨?_, (h107.2.trans h114.2).trans h120.2⟩; show RS B n t (oneF B n none x) _; unfold oneF; rw [if_neg (by omega)]; show RS B n t (if ptk x = 45 then _ else if ptk x = 40 then _ else _) _; rw [if_neg (by omega), if_pos hx1]; exact h120.1))
      · refine f_aload_n hZ dX2_one_31 rfl ?_
        refine gX2_27 hZ dX2_one_32 (fun r32 => ?_)
        refine f_goto (tgt := 46) hZ dX2_one_35 rfl ?_
        refine vX2_64 hZ dX2_one_46 (c_emit (fun nm => if ptk x = 256 then pvl x else nm (pvl x)) (by omega) hS (fun y hy => by cases hy; exact hlen)) (fun M46 h46 => ?_)
        refine f_aload_n hZ dX2_one_49 rfl ?_
        refine vX2_46 hZ dX2_one_50 (c_adv h46.1 (fun y hy => by cases hy; show ptk x ≠ 258; omega)) (fun M50 h50 => ?_)
        refine f_goto (tgt := 130) hZ dX2_one_53 rfl ?_
        exact f_retV hZ hR dX2_one_130 rfl (by first | (exfalso; omega) | (refine ⟨?_, h46.2.trans h50.2⟩; show RS B n t (oneF B n none x) _; unfold oneF; rw [if_pos (by omega)]; have h50 := h50.1; rw [hx3] at h50; unfold onN; first | (rw [if_pos (show ptk x = 256 by omega)]; exact h50) | (rw [if_neg (show ¬ ptk x = 256 by omega)]; exact h50)) | (refine ⟨?_, h62.2⟩; have hh := h62.1; rcases hS.tk with ⟨_, p, rfl⟩ | ⟨_, y, rfl, g2⟩; exact hh; show RS B n t (oneF B n none y) _; unfold oneF; rw [if_neg (by omega)]; first | exact hh | (show RS B n t (if ptk y = 45 then _ else if ptk y = 40 then _ else .error (pat y)) _; rw [if_neg (by omega), if_neg (by omega)]; exact hh)) | (refine ⟨?_, h127.2⟩; have hh := h127.1; rcases hS.tk with ⟨_, p, rfl⟩ | ⟨_, y, rfl, g2⟩; exact hh; show RS B n t (oneF B n none y) _; unfold oneF; rw [if_neg (by omega)]; first | exact hh | (show RS B n t (if ptk y = 45 then _ else if ptk y = 40 then _ else .error (pat y)) _; rw [if_neg (by omega), if_neg (by omega)]; exact hh)) | (refine ⟨?_, (h78.2.trans h85.2).trans h91.2⟩; show RS B n t (oneF B n none x) _; unfold oneF; rw [if_neg (by omega)]; show RS B n t (if ptk x = 45 then _ else _) _; rw [if_pos hx1]; exact RS.v h91.1) | (refine ⟨?_, (h107.2.trans h114.2).trans h120.2⟩; show RS B n t (oneF B n none x) _; unfold oneF; rw [if_neg (by omega)]; show RS B n t (if ptk x = 45 then _ else if ptk x = 40 then _ else _) _; rw [if_neg (by omega), if_pos hx1]; exact h120.1))

set_option maxRecDepth 20000 in
set_option maxHeartbeats 4000000 in
theorem t_X2_one_s {X : fX} {B : Int → Int} {n t : Int} {d : Nat} {o : Int} (ho : 0 ≤ o ∧ o ≤ 4) (hn : n ≤ 160) {fo fe : pT → pE} (hfo : Gd n fo) (hO : RC B n t X (d + 13) mX2_one (o + 1) fo) (hE : RC B n t X (d + 13) mX2_either (o + 1) fe) : RC B n t X (d + 14) mX2_one o (oneF B n (some (fo, fe))) := by
  intro M e hS hW
  refine fC.of (L := [_, _]) (by decide +kernel) rfl (Nat.le_of_ble_eq_true rfl) (fun Z hZ hR => ?_)
  refine f_aload_n hZ dX2_one_0 rfl ?_
  refine gX2_24 hZ dX2_one_1 (fun r1 => ?_)
  refine f_sipush hZ dX2_one_4 ?_
  refine f_ieq (tgt := 20) hZ dX2_one_7 rfl (by omega) (by omega) (fun h7 => ?_) (fun h7 => ?_)
  · have ⟨tk, htk, htk2⟩ : ∃ tk, M 37 6 = tk ∧ (tk = 256 ∨ tk = 257) := ⟨_, rfl, by omega⟩
    obtain ⟨x, rfl, hx1, hx3⟩ := hS.ok htk (by omega)
    have hx3 := hx3 htk2
    have hWx := hW x rfl
    have hlen : (pcd x).length < 160 := by
      have h1 := hWx.2.2.1 (by omega)
      have h2 := hWx.2.2.2.2.2.1
      omega
    have hv4 := hWx.2.2.2.1
    have hv5 := hWx.2.2.2.2.1
    refine f_aload_n hZ dX2_one_20 rfl ?_
    refine f_aload_n hZ dX2_one_21 rfl ?_
    refine gX2_24 hZ dX2_one_22 (fun r22 => ?_)
    refine f_sipush hZ dX2_one_25 ?_
    refine f_ine (tgt := 38) hZ dX2_one_28 rfl (by omega) (by omega) (fun h28 => ?_) (fun h28 => ?_)
    · refine f_sipush hZ dX2_one_38 ?_
      refine f_aload_n hZ dX2_one_41 rfl ?_
      refine gX2_27 hZ dX2_one_42 (fun r42 => ?_)
      refine f_iadd hZ dX2_one_45 ?_
      refine vX2_64 hZ dX2_one_46 (c_emit (fun nm => if ptk x = 256 then pvl x else nm (pvl x)) (by omega) hS (fun y hy => by cases hy; exact hlen)) (fun M46 h46 => ?_)
      refine f_aload_n hZ dX2_one_49 rfl ?_
      refine vX2_46 hZ dX2_one_50 (c_adv h46.1 (fun y hy => by cases hy; show ptk x ≠ 258; omega)) (fun M50 h50 => ?_)
      refine f_goto (tgt := 130) hZ dX2_one_53 rfl ?_
      exact f_retV hZ hR dX2_one_130 rfl (by first | (exfalso; omega) | (refine ⟨?_, h46.2.trans h50.2⟩; show RS B n t (oneF B n (some (fo, fe)) x) _; unfold oneF; rw [if_pos (by omega)]; have h50 := h50.1; rw [hx3] at h50; unfold onN; first | (rw [if_pos (show ptk x = 256 by omega)]; exact h50) | (rw [if_neg (show ¬ ptk x = 256 by omega)]; exact h50)) | (refine ⟨?_, h62.2⟩; have hh := h62.1; rcases hS.tk with ⟨_, p, rfl⟩ | ⟨_, y, rfl, g2⟩; exact hh; show RS B n t (oneF B n (some (fo, fe)) y) _; unfold oneF; rw [if_neg (by omega)]; first | exact hh | (show RS B n t (if ptk y = 45 then _ else if ptk y = 40 then _ else .error (pat y)) _; rw [if_neg (by omega), if_neg (by omega)]; exact hh)) | (refine ⟨?_, h127.2⟩; have hh := h127.1; rcases hS.tk with ⟨_, p, rfl⟩ | ⟨_, y, rfl, g2⟩; exact hh; show RS B n t (oneF B n (some (fo, fe)) y) _; unfold oneF; rw [if_neg (by omega)]; first | exact hh | (show RS B n t (if ptk y = 45 then _ else if ptk y = 40 then _ else .error (pat y)) _; rw [if_neg (by omega), if_neg (by omega)]; exact hh)) | (refine ⟨?_, (h78.2.trans h85.2).trans h91.2⟩; show RS B n t (oneF B n (some (fo, fe)) x) _; unfold oneF; rw [if_neg (by omega)]; show RS B n t (if ptk x = 45 then _ else _) _; rw [if_pos hx1]; exact RS.v h91.1) | (refine ⟨?_, (h107.2.trans h114.2).trans h120.2⟩; show RS B n t (oneF B n (some (fo, fe)) x) _; unfold oneF; rw [if_neg (by omega)]; show RS B n t (if ptk x = 45 then _ else if ptk x = 40 then _ else _) _; rw [if_neg (by omega), if_pos hx1]; exact h120.1))
    · refine f_aload_n hZ dX2_one_31 rfl ?_
      refine gX2_27 hZ dX2_one_32 (fun r32 => ?_)
      refine f_goto (tgt := 46) hZ dX2_one_35 rfl ?_
      refine vX2_64 hZ dX2_one_46 (c_emit (fun nm => if ptk x = 256 then pvl x else nm (pvl x)) (by omega) hS (fun y hy => by cases hy; exact hlen)) (fun M46 h46 => ?_)
      refine f_aload_n hZ dX2_one_49 rfl ?_
      refine vX2_46 hZ dX2_one_50 (c_adv h46.1 (fun y hy => by cases hy; show ptk x ≠ 258; omega)) (fun M50 h50 => ?_)
      refine f_goto (tgt := 130) hZ dX2_one_53 rfl ?_
      exact f_retV hZ hR dX2_one_130 rfl (by first | (exfalso; omega) | (refine ⟨?_, h46.2.trans h50.2⟩; show RS B n t (oneF B n (some (fo, fe)) x) _; unfold oneF; rw [if_pos (by omega)]; have h50 := h50.1; rw [hx3] at h50; unfold onN; first | (rw [if_pos (show ptk x = 256 by omega)]; exact h50) | (rw [if_neg (show ¬ ptk x = 256 by omega)]; exact h50)) | (refine ⟨?_, h62.2⟩; have hh := h62.1; rcases hS.tk with ⟨_, p, rfl⟩ | ⟨_, y, rfl, g2⟩; exact hh; show RS B n t (oneF B n (some (fo, fe)) y) _; unfold oneF; rw [if_neg (by omega)]; first | exact hh | (show RS B n t (if ptk y = 45 then _ else if ptk y = 40 then _ else .error (pat y)) _; rw [if_neg (by omega), if_neg (by omega)]; exact hh)) | (refine ⟨?_, h127.2⟩; have hh := h127.1; rcases hS.tk with ⟨_, p, rfl⟩ | ⟨_, y, rfl, g2⟩; exact hh; show RS B n t (oneF B n (some (fo, fe)) y) _; unfold oneF; rw [if_neg (by omega)]; first | exact hh | (show RS B n t (if ptk y = 45 then _ else if ptk y = 40 then _ else .error (pat y)) _; rw [if_neg (by omega), if_neg (by omega)]; exact hh)) | (refine ⟨?_, (h78.2.trans h85.2).trans h91.2⟩; show RS B n t (oneF B n (some (fo, fe)) x) _; unfold oneF; rw [if_neg (by omega)]; show RS B n t (if ptk x = 45 then _ else _) _; rw [if_pos hx1]; exact RS.v h91.1) | (refine ⟨?_, (h107.2.trans h114.2).trans h120.2⟩; show RS B n t (oneF B n (some (fo, fe)) x) _; unfold oneF; rw [if_neg (by omega)]; show RS B n t (if ptk x = 45 then _ else if ptk x = 40 then _ else _) _; rw [if_neg (by omega), if_pos hx1]; exact h120.1))
  · refine f_aload_n hZ dX2_one_10 rfl ?_
    refine gX2_24 hZ dX2_one_11 (fun r11 => ?_)
    refine f_sipush hZ dX2_one_14 ?_
    refine f_ine (tgt := 56) hZ dX2_one_17 rfl (by omega) (by omega) (fun h17 => ?_) (fun h17 => ?_)
    · refine f_iload_n hZ dX2_one_56 rfl ?_
      refine f_iconst hZ dX2_one_57 ?_
      refine f_ilt (tgt := 68) hZ dX2_one_58 rfl (by omega) (by omega) (fun h58 => ?_) (fun h58 => ?_)
      · refine f_aload_n hZ dX2_one_68 rfl ?_
        refine gX2_24 hZ dX2_one_69 (fun r69 => ?_)
        refine f_bipush hZ dX2_one_72 ?_
        refine f_ine (tgt := 97) hZ dX2_one_74 rfl (by omega) (by omega) (fun h74 => ?_) (fun h74 => ?_)
        · refine f_aload_n hZ dX2_one_97 rfl ?_
          refine gX2_24 hZ dX2_one_98 (fun r98 => ?_)
          refine f_bipush hZ dX2_one_101 ?_
          refine f_ine (tgt := 126) hZ dX2_one_103 rfl (by omega) (by omega) (fun h103 => ?_) (fun h103 => ?_)
          · refine f_aload_n hZ dX2_one_126 rfl ?_
            refine vX2_56 hZ dX2_one_127 (c_fail hS) (fun M127 h127 => ?_)
            exact f_retV hZ hR dX2_one_130 rfl (by first | (exfalso; omega) | (refine ⟨?_, h46.2.trans h50.2⟩; show RS B n t (oneF B n (some (fo, fe)) x) _; unfold oneF; rw [if_pos (by omega)]; have h50 := h50.1; rw [hx3] at h50; unfold onN; first | (rw [if_pos (show ptk x = 256 by omega)]; exact h50) | (rw [if_neg (show ¬ ptk x = 256 by omega)]; exact h50)) | (refine ⟨?_, h62.2⟩; have hh := h62.1; rcases hS.tk with ⟨_, p, rfl⟩ | ⟨_, y, rfl, g2⟩; exact hh; show RS B n t (oneF B n (some (fo, fe)) y) _; unfold oneF; rw [if_neg (by omega)]; first | exact hh | (show RS B n t (if ptk y = 45 then _ else if ptk y = 40 then _ else .error (pat y)) _; rw [if_neg (by omega), if_neg (by omega)]; exact hh)) | (refine ⟨?_, h127.2⟩; have hh := h127.1; rcases hS.tk with ⟨_, p, rfl⟩ | ⟨_, y, rfl, g2⟩; exact hh; show RS B n t (oneF B n (some (fo, fe)) y) _; unfold oneF; rw [if_neg (by omega)]; first | exact hh | (show RS B n t (if ptk y = 45 then _ else if ptk y = 40 then _ else .error (pat y)) _; rw [if_neg (by omega), if_neg (by omega)]; exact hh)) | (refine ⟨?_, (h78.2.trans h85.2).trans h91.2⟩; show RS B n t (oneF B n (some (fo, fe)) x) _; unfold oneF; rw [if_neg (by omega)]; show RS B n t (if ptk x = 45 then _ else _) _; rw [if_pos hx1]; exact RS.v h91.1) | (refine ⟨?_, (h107.2.trans h114.2).trans h120.2⟩; show RS B n t (oneF B n (some (fo, fe)) x) _; unfold oneF; rw [if_neg (by omega)]; show RS B n t (if ptk x = 45 then _ else if ptk x = 40 then _ else _) _; rw [if_neg (by omega), if_pos hx1]; exact h120.1))
          · obtain ⟨x, rfl, hx1, _⟩ := hS.ok h103 (by omega)
            have hWx := hW x rfl
            have hx2 : ptk x ≠ 258 := by omega
            refine f_aload_n hZ dX2_one_106 rfl ?_
            refine vX2_46 hZ dX2_one_107 (c_adv hS (fun y hy => by cases hy; exact hx2)) (fun M107 h107 => ?_)
            refine f_aload_n hZ dX2_one_110 rfl ?_
            refine f_iload_n hZ dX2_one_111 rfl ?_
            refine f_iconst hZ dX2_one_112 ?_
            refine f_iadd hZ dX2_one_113 ?_
            refine vX2_53 hZ dX2_one_114 (hE _ _ h107.1 (adv_we hWx hx2)) (fun M114 h114 => ?_)
            refine f_aload_n hZ dX2_one_117 rfl ?_
            refine f_bipush hZ dX2_one_118 ?_
            refine vX2_49 hZ dX2_one_120 (t_X2_expect (by omega) h114.1) (fun M120 h120 => ?_)
            refine f_goto (tgt := 130) hZ dX2_one_123 rfl ?_
            exact f_retV hZ hR dX2_one_130 rfl (by first | (exfalso; omega) | (refine ⟨?_, h46.2.trans h50.2⟩; show RS B n t (oneF B n (some (fo, fe)) x) _; unfold oneF; rw [if_pos (by omega)]; have h50 := h50.1; rw [hx3] at h50; unfold onN; first | (rw [if_pos (show ptk x = 256 by omega)]; exact h50) | (rw [if_neg (show ¬ ptk x = 256 by omega)]; exact h50)) | (refine ⟨?_, h62.2⟩; have hh := h62.1; rcases hS.tk with ⟨_, p, rfl⟩ | ⟨_, y, rfl, g2⟩; exact hh; show RS B n t (oneF B n (some (fo, fe)) y) _; unfold oneF; rw [if_neg (by omega)]; first | exact hh | (show RS B n t (if ptk y = 45 then _ else if ptk y = 40 then _ else .error (pat y)) _; rw [if_neg (by omega), if_neg (by omega)]; exact hh)) | (refine ⟨?_, h127.2⟩; have hh := h127.1; rcases hS.tk with ⟨_, p, rfl⟩ | ⟨_, y, rfl, g2⟩; exact hh; show RS B n t (oneF B n (some (fo, fe)) y) _; unfold oneF; rw [if_neg (by omega)]; first | exact hh | (show RS B n t (if ptk y = 45 then _ else if ptk y = 40 then _ else .error (pat y)) _; rw [if_neg (by omega), if_neg (by omega)]; exact hh)) | (refine ⟨?_, (h78.2.trans h85.2).trans h91.2⟩; show RS B n t (oneF B n (some (fo, fe)) x) _; unfold oneF; rw [if_neg (by omega)]; show RS B n t (if ptk x = 45 then _ else _) _; rw [if_pos hx1]; exact RS.v h91.1) | (refine ⟨?_, (h107.2.trans h114.2).trans h120.2⟩; show RS B n t (oneF B n (some (fo, fe)) x) _; unfold oneF; rw [if_neg (by omega)]; show RS B n t (if ptk x = 45 then _ else if ptk x = 40 then _ else _) _; rw [if_neg (by omega), if_pos hx1]; exact h120.1))
        · obtain ⟨x, rfl, hx1, _⟩ := hS.ok h74 (by omega)
          have hWx := hW x rfl
          have hx2 : ptk x ≠ 258 := by omega
          refine f_aload_n hZ dX2_one_77 rfl ?_
          refine vX2_46 hZ dX2_one_78 (c_adv hS (fun y hy => by cases hy; exact hx2)) (fun M78 h78 => ?_)
          refine f_aload_n hZ dX2_one_81 rfl ?_
          refine f_iload_n hZ dX2_one_82 rfl ?_
          refine f_iconst hZ dX2_one_83 ?_
          refine f_iadd hZ dX2_one_84 ?_
          refine vX2_79 hZ dX2_one_85 (hO _ _ h78.1 (adv_we hWx hx2)) (fun M85 h85 => ?_)
          refine f_aload_n hZ dX2_one_88 rfl ?_
          refine f_bipush hZ dX2_one_89 ?_
          refine vX2_64 hZ dX2_one_91 (c_emit (fun _ => 0) (by omega) h85.1 (sub_len hfo hn hWx hx2)) (fun M91 h91 => ?_)
          refine f_goto (tgt := 130) hZ dX2_one_94 rfl ?_
          exact f_retV hZ hR dX2_one_130 rfl (by first | (exfalso; omega) | (refine ⟨?_, h46.2.trans h50.2⟩; show RS B n t (oneF B n (some (fo, fe)) x) _; unfold oneF; rw [if_pos (by omega)]; have h50 := h50.1; rw [hx3] at h50; unfold onN; first | (rw [if_pos (show ptk x = 256 by omega)]; exact h50) | (rw [if_neg (show ¬ ptk x = 256 by omega)]; exact h50)) | (refine ⟨?_, h62.2⟩; have hh := h62.1; rcases hS.tk with ⟨_, p, rfl⟩ | ⟨_, y, rfl, g2⟩; exact hh; show RS B n t (oneF B n (some (fo, fe)) y) _; unfold oneF; rw [if_neg (by omega)]; first | exact hh | (show RS B n t (if ptk y = 45 then _ else if ptk y = 40 then _ else .error (pat y)) _; rw [if_neg (by omega), if_neg (by omega)]; exact hh)) | (refine ⟨?_, h127.2⟩; have hh := h127.1; rcases hS.tk with ⟨_, p, rfl⟩ | ⟨_, y, rfl, g2⟩; exact hh; show RS B n t (oneF B n (some (fo, fe)) y) _; unfold oneF; rw [if_neg (by omega)]; first | exact hh | (show RS B n t (if ptk y = 45 then _ else if ptk y = 40 then _ else .error (pat y)) _; rw [if_neg (by omega), if_neg (by omega)]; exact hh)) | (refine ⟨?_, (h78.2.trans h85.2).trans h91.2⟩; show RS B n t (oneF B n (some (fo, fe)) x) _; unfold oneF; rw [if_neg (by omega)]; show RS B n t (if ptk x = 45 then _ else _) _; rw [if_pos hx1]; exact RS.v h91.1) | (refine ⟨?_, (h107.2.trans h114.2).trans h120.2⟩; show RS B n t (oneF B n (some (fo, fe)) x) _; unfold oneF; rw [if_neg (by omega)]; show RS B n t (if ptk x = 45 then _ else if ptk x = 40 then _ else _) _; rw [if_neg (by omega), if_pos hx1]; exact h120.1))
      · exfalso; omega
    · have ⟨tk, htk, htk2⟩ : ∃ tk, M 37 6 = tk ∧ (tk = 256 ∨ tk = 257) := ⟨_, rfl, by omega⟩
      obtain ⟨x, rfl, hx1, hx3⟩ := hS.ok htk (by omega)
      have hx3 := hx3 htk2
      have hWx := hW x rfl
      have hlen : (pcd x).length < 160 := by
        have h1 := hWx.2.2.1 (by omega)
        have h2 := hWx.2.2.2.2.2.1
        omega
      have hv4 := hWx.2.2.2.1
      have hv5 := hWx.2.2.2.2.1
      refine f_aload_n hZ dX2_one_20 rfl ?_
      refine f_aload_n hZ dX2_one_21 rfl ?_
      refine gX2_24 hZ dX2_one_22 (fun r22 => ?_)
      refine f_sipush hZ dX2_one_25 ?_
      refine f_ine (tgt := 38) hZ dX2_one_28 rfl (by omega) (by omega) (fun h28 => ?_) (fun h28 => ?_)
      · refine f_sipush hZ dX2_one_38 ?_
        refine f_aload_n hZ dX2_one_41 rfl ?_
        refine gX2_27 hZ dX2_one_42 (fun r42 => ?_)
        refine f_iadd hZ dX2_one_45 ?_
        refine vX2_64 hZ dX2_one_46 (c_emit (fun nm => if ptk x = 256 then pvl x else nm (pvl x)) (by omega) hS (fun y hy => by cases hy; exact hlen)) (fun M46 h46 => ?_)
        refine f_aload_n hZ dX2_one_49 rfl ?_
        refine vX2_46 hZ dX2_one_50 (c_adv h46.1 (fun y hy => by cases hy; show ptk x ≠ 258; omega)) (fun M50 h50 => ?_)
        refine f_goto (tgt := 130) hZ dX2_one_53 rfl ?_
        exact f_retV hZ hR dX2_one_130 rfl (by first | (exfalso; omega) | (refine ⟨?_, h46.2.trans h50.2⟩; show RS B n t (oneF B n (some (fo, fe)) x) _; unfold oneF; rw [if_pos (by omega)]; have h50 := h50.1; rw [hx3] at h50; unfold onN; first | (rw [if_pos (show ptk x = 256 by omega)]; exact h50) | (rw [if_neg (show ¬ ptk x = 256 by omega)]; exact h50)) | (refine ⟨?_, h62.2⟩; have hh := h62.1; rcases hS.tk with ⟨_, p, rfl⟩ | ⟨_, y, rfl, g2⟩; exact hh; show RS B n t (oneF B n (some (fo, fe)) y) _; unfold oneF; rw [if_neg (by omega)]; first | exact hh | (show RS B n t (if ptk y = 45 then _ else if ptk y = 40 then _ else .error (pat y)) _; rw [if_neg (by omega), if_neg (by omega)]; exact hh)) | (refine ⟨?_, h127.2⟩; have hh := h127.1; rcases hS.tk with ⟨_, p, rfl⟩ | ⟨_, y, rfl, g2⟩; exact hh; show RS B n t (oneF B n (some (fo, fe)) y) _; unfold oneF; rw [if_neg (by omega)]; first | exact hh | (show RS B n t (if ptk y = 45 then _ else if ptk y = 40 then _ else .error (pat y)) _; rw [if_neg (by omega), if_neg (by omega)]; exact hh)) | (refine ⟨?_, (h78.2.trans h85.2).trans h91.2⟩; show RS B n t (oneF B n (some (fo, fe)) x) _; unfold oneF; rw [if_neg (by omega)]; show RS B n t (if ptk x = 45 then _ else _) _; rw [if_pos hx1]; exact RS.v h91.1) | (refine ⟨?_, (h107.2.trans h114.2).trans h120.2⟩; show RS B n t (oneF B n (some (fo, fe)) x) _; unfold oneF; rw [if_neg (by omega)]; show RS B n t (if ptk x = 45 then _ else if ptk x = 40 then _ else _) _; rw [if_neg (by omega), if_pos hx1]; exact h120.1))
      · refine f_aload_n hZ dX2_one_31 rfl ?_
        refine gX2_27 hZ dX2_one_32 (fun r32 => ?_)
        refine f_goto (tgt := 46) hZ dX2_one_35 rfl ?_
        refine vX2_64 hZ dX2_one_46 (c_emit (fun nm => if ptk x = 256 then pvl x else nm (pvl x)) (by omega) hS (fun y hy => by cases hy; exact hlen)) (fun M46 h46 => ?_)
        refine f_aload_n hZ dX2_one_49 rfl ?_
        refine vX2_46 hZ dX2_one_50 (c_adv h46.1 (fun y hy => by cases hy; show ptk x ≠ 258; omega)) (fun M50 h50 => ?_)
        refine f_goto (tgt := 130) hZ dX2_one_53 rfl ?_
        exact f_retV hZ hR dX2_one_130 rfl (by first | (exfalso; omega) | (refine ⟨?_, h46.2.trans h50.2⟩; show RS B n t (oneF B n (some (fo, fe)) x) _; unfold oneF; rw [if_pos (by omega)]; have h50 := h50.1; rw [hx3] at h50; unfold onN; first | (rw [if_pos (show ptk x = 256 by omega)]; exact h50) | (rw [if_neg (show ¬ ptk x = 256 by omega)]; exact h50)) | (refine ⟨?_, h62.2⟩; have hh := h62.1; rcases hS.tk with ⟨_, p, rfl⟩ | ⟨_, y, rfl, g2⟩; exact hh; show RS B n t (oneF B n (some (fo, fe)) y) _; unfold oneF; rw [if_neg (by omega)]; first | exact hh | (show RS B n t (if ptk y = 45 then _ else if ptk y = 40 then _ else .error (pat y)) _; rw [if_neg (by omega), if_neg (by omega)]; exact hh)) | (refine ⟨?_, h127.2⟩; have hh := h127.1; rcases hS.tk with ⟨_, p, rfl⟩ | ⟨_, y, rfl, g2⟩; exact hh; show RS B n t (oneF B n (some (fo, fe)) y) _; unfold oneF; rw [if_neg (by omega)]; first | exact hh | (show RS B n t (if ptk y = 45 then _ else if ptk y = 40 then _ else .error (pat y)) _; rw [if_neg (by omega), if_neg (by omega)]; exact hh)) | (refine ⟨?_, (h78.2.trans h85.2).trans h91.2⟩; show RS B n t (oneF B n (some (fo, fe)) x) _; unfold oneF; rw [if_neg (by omega)]; show RS B n t (if ptk x = 45 then _ else _) _; rw [if_pos hx1]; exact RS.v h91.1) | (refine ⟨?_, (h107.2.trans h114.2).trans h120.2⟩; show RS B n t (oneF B n (some (fo, fe)) x) _; unfold oneF; rw [if_neg (by omega)]; show RS B n t (if ptk x = 45 then _ else if ptk x = 40 then _ else _) _; rw [if_neg (by omega), if_pos hx1]; exact h120.1))

theorem RC.dep {B : Int → Int} {n t : Int} {X : fX} {d d' : Nat} {y : fY} {o : Int} {f g : pT → pE} (h : RC B n t X d y o f) (e : d = d') (ef : f = g) : RC B n t X d' y o g := by subst e; subst ef; exact h
/-- all levels -/
theorem t_X2_all {X : fX} {B : Int → Int} {n t : Int} (hn : n ≤ 160) : ∀ (k : Nat) (o : Int), o = 5 - (k : Int) → 0 ≤ o → ∀ d : Nat, RC B n t X (d + (6 * k + 14)) mX2_one o (pLv B n k).1 ∧ RC B n t X (d + (6 * k + 17)) mX2_negation o (pLv B n k).2 ∧ RC B n t X (d + (6 * k + 19)) mX2_either o (ethF B n (pLv B n k).2)
  | 0, o, ho, h0, d => by
    have g1 : Gd n (oneF B n none) := (pLv_gd (B := B) (n := n) 0).1
    have g2 : Gd n (pLv B n 0).2 := (pLv_gd 0).2
    have hO : ∀ d : Nat, RC B n t X (d + 14) mX2_one o (oneF B n none) := fun d => t_X2_one_0 (by omega) hn
    have hT := t_X2_term (d := d + 6) (by omega) hn g1 ((hO d).dep (by omega) rfl)
    have hS := t_X2_sum (d := d + 6) (by omega) hn (trm_gd g1) (hT.dep (by omega) rfl)
    have hN := t_X2_negation (d := d + 6) (g := fun x => .error (pat x)) (by omega) hn (sm_gd g1) (hS.dep (by omega) rfl) (fun M x h1 h2 h3 => (t_X2_deny_0 (d := d + 6) (by omega) h1).dep (by omega))
    have hN : RC B n t X (d + 17) mX2_negation o (pLv B n 0).2 := hN.dep (by omega) rfl
    have hB := t_X2_both (d := d + 6) (by omega) hn g2 (hN.dep (by omega) rfl)
    have hE := t_X2_either (d := d + 6) (by omega) hn (bth_gd g2) (hB.dep (by omega) rfl)
    exact ⟨(hO d).dep (by omega) rfl, hN.dep (by omega) rfl, hE.dep (by omega) rfl⟩
  | k + 1, o, ho, h0, d => by
    have ih := fun d => t_X2_all (X := X) (B := B) (t := t) hn k (o + 1) (by omega) (by omega) d
    have gk := pLv_gd (B := B) (n := n) k
    have g1 : Gd n (oneF B n (some ((pLv B n k).1, ethF B n (pLv B n k).2))) := (pLv_gd (B := B) (n := n) (k + 1)).1
    have g2 : Gd n (pLv B n (k + 1)).2 := (pLv_gd (k + 1)).2
    have hO : RC B n t X (d + (6 * k + 20)) mX2_one o (oneF B n (some ((pLv B n k).1, ethF B n (pLv B n k).2))) := (t_X2_one_s (d := d + (6 * k + 6)) (by omega) hn gk.1 ((ih (d + 5)).1.dep (by omega) rfl) ((ih d).2.2.dep (by omega) rfl)).dep (by omega) rfl
    have hT := t_X2_term (d := d + (6 * k + 12)) (by omega) hn g1 (hO.dep (by omega) rfl)
    have hS := t_X2_sum (d := d + (6 * k + 12)) (by omega) hn (trm_gd g1) (hT.dep (by omega) rfl)
    have hN := t_X2_negation (d := d + (6 * k + 12)) (g := fun x => un1 B n (pLv B n k).2 (-8) notZ x) (by omega) hn (sm_gd g1) (hS.dep (by omega) rfl) (fun M x h1 h2 h3 => t_X2_deny_s (d := d + (6 * k + 12)) (by omega) hn gk.2 ((ih (d + 4)).2.1.dep (by omega) rfl) h1 h2 (by omega))
    have hN : RC B n t X (d + (6 * k + 23)) mX2_negation o (pLv B n (k + 1)).2 := hN.dep (by omega) rfl
    have hB := t_X2_both (d := d + (6 * k + 12)) (by omega) hn g2 (hN.dep (by omega) rfl)
    have hE := t_X2_either (d := d + (6 * k + 12)) (by omega) hn (bth_gd g2) (hB.dep (by omega) rfl)
    exact ⟨hO.dep (by omega) rfl, hN.dep (by omega) rfl, hE.dep (by omega) rfl⟩
