/-! spans 1 .. 60 as bits -/
def sbF (T : Int → Prop) [DecidablePred T] : Int → Int → Int := fun k acc => if T (k + 1) then orJ acc (shlJ 1 (k + 1)) else acc
def sbZ (T : Int → Prop) [DecidablePred T] (x : Int) : Int := itZ (sbF T) 0 (x - 1)
theorem sbZ_succ (T : Int → Prop) [DecidablePred T] {x : Int} (h : 1 ≤ x) : sbZ T (x + 1) = if T x then orJ (sbZ T x) (shlJ 1 x) else sbZ T x := by
  unfold sbZ
  rw [show x + 1 - 1 = x - 1 + 1 by omega, itZ_succ _ _ (by omega)]
  unfold sbF
  rw [show x - 1 + 1 = x by omega]
theorem sbZ_rj (T : Int → Prop) [DecidablePred T] (x : Int) (h : 1 ≤ x) : rj (sbZ T x) :=
  itZ_inv (fun _ y => rj y) (by omega) (fun k y _ _ hy => by unfold sbF; split; exact rj_of _; exact hy) (x - 1) (by omega) (Int.le_refl _)
set_option maxRecDepth 20000 in
set_option maxHeartbeats 4000000 in
theorem t_X4_sureBits {X : fX} {M : fM} {d : Nat} : fC X (d + 1) mX4_sureBits [.ref (xa X 39)] M (QJ fun r M' => M' = M ∧ r = sbZ (fun y => toldP M y) 61) := by
  refine fC.of (L := [_, _, _, _]) (by decide +kernel) rfl (Nat.le_of_ble_eq_true rfl) (fun Z hZ hR => ?_)
  have loop : ∀ (m : Nat) (x : Int) , 1 ≤ x → x + m = 61 →  fG X mX4_sureBits Z 4 [.ref (xa X 39), .long (jv (sbZ (fun y => toldP M y) x)), .null, .int (iv x)] [] (M) := by
    intro m
    induction m with
    | zero =>
      intro x  h0 hw 
      have hOw := sbZ_rj (fun y => toldP M y) x h0
      refine f_iload_n hZ dX4_sureBits_4 rfl ?_
      refine f_bipush hZ dX4_sureBits_5 ?_
      refine f_igt (tgt := 30) hZ dX4_sureBits_7 rfl (by first | omega | exact rj_of _) (by first | omega | exact rj_of _) (fun h7 => ?_) (fun h7 => ?_)
      · refine f_lload_n hZ dX4_sureBits_30 rfl ?_
        exact f_retJ hZ hR dX4_sureBits_31 rfl (by first | omega | exact rj_of _) (by have hwe : x = 61 := (by omega); subst hwe; exact ⟨rfl, rfl⟩)
      · exfalso; omega
    | succ m ih =>
      intro x  h0 hw 
      have hOw := sbZ_rj (fun y => toldP M y) x h0
      refine f_iload_n hZ dX4_sureBits_4 rfl ?_
      refine f_bipush hZ dX4_sureBits_5 ?_
      refine f_igt (tgt := 30) hZ dX4_sureBits_7 rfl (by first | omega | exact rj_of _) (by first | omega | exact rj_of _) (fun h7 => ?_) (fun h7 => ?_)
      · exfalso; omega
      · refine f_aload_n hZ dX4_sureBits_10 rfl ?_
        refine f_iload_n hZ dX4_sureBits_11 rfl ?_
        refine vX4_56 hZ dX4_sureBits_12 (t_X4_tells (by omega)) (fun a12 M12 r12 h12 => ?_)
        obtain ⟨e12, h12⟩ := h12
        replace e12 := e12.symm
        subst e12
        refine f_eq (tgt := 24) hZ dX4_sureBits_15 rfl (by first | omega | exact rj_of _) (fun h15 => ?_) (fun h15 => ?_)
        · refine f_iinc (L' := [_, _, _, _]) hZ dX4_sureBits_24 rfl rfl ?_
          refine f_goto (tgt := 4) hZ dX4_sureBits_27 rfl ?_
          have hh := ih (x + 1) (by omega) (by omega)
          rw [sbZ_succ _ h0] at hh
          first | (rw [if_pos (show toldP M x by omega)] at hh; exact hh) | (rw [if_neg (show ¬ toldP M x by omega)] at hh; exact hh)
        · refine f_lload_n hZ dX4_sureBits_18 rfl ?_
          refine f_lconst1 hZ dX4_sureBits_19 ?_
          refine f_iload_n hZ dX4_sureBits_20 rfl ?_
          refine f_lshl hZ dX4_sureBits_21 ?_
          refine f_lor hZ dX4_sureBits_22 ?_
          refine f_lstore_n (L' := [_, _, _, _]) hZ dX4_sureBits_23 rfl rfl ?_
          refine f_iinc (L' := [_, _, _, _]) hZ dX4_sureBits_24 rfl rfl ?_
          refine f_goto (tgt := 4) hZ dX4_sureBits_27 rfl ?_
          have hh := ih (x + 1) (by omega) (by omega)
          rw [sbZ_succ _ h0] at hh
          first | (rw [if_pos (show toldP M x by omega)] at hh; exact hh) | (rw [if_neg (show ¬ toldP M x by omega)] at hh; exact hh)
  refine f_lconst0 hZ dX4_sureBits_0 ?_
  refine f_lstore_n (L' := [_, _, _, _]) hZ dX4_sureBits_1 rfl rfl ?_
  refine f_iconst hZ dX4_sureBits_2 ?_
  refine f_istore_n (L' := [_, _, _, _]) hZ dX4_sureBits_3 rfl rfl ?_
  exact loop 60 1 (by omega) (by omega)

