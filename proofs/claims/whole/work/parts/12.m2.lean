/-! pure: how fast, what ash -/
def fastB (k n l d : Int) : Int := if k = 1 then 2 * l else if k = 2 then (if n < d then l - 1 else l) else if k = 3 then (if l = 2 then 2 * l + n.tmod 3 else 2 * l) else if k = 4 then (if l = 1 then 1 else if n < d then l - 1 else l) else if k = 5 then 2 * l - d.tdiv 2 else l
def fastZ (k n l d : Int) : Int := if l = 0 then 0 else max 1 (fastB k n l d)
def ashB (k n b : Int) : Int := if k = 1 then b.tdiv 2 else if k = 2 then b + n else if k = 3 then b.tdiv 2 - n else if k = 4 then 2 * (b + n) else if k = 5 then b.tdiv 2 + b.tdiv 3 else b
def ashZ (k n b : Int) : Int := max 0 (ashB k n b)
theorem tmod3 {n : Int} (h : 0 ≤ n) : 0 ≤ n.tmod 3 ∧ n.tmod 3 ≤ 2 := by
  rw [Int.tmod_eq_emod_of_nonneg h]; omega
theorem tdiv2 {n : Int} (h : 0 ≤ n) : n.tdiv 2 = n / 2 := Int.tdiv_eq_ediv_of_nonneg h
theorem tdiv3 {n : Int} (h : 0 ≤ n) : n.tdiv 3 = n / 3 := Int.tdiv_eq_ediv_of_nonneg h
theorem fastZ_rg {k n l d : Int} (hl : 0 ≤ l ∧ l ≤ 2) (hn : 0 ≤ n ∧ n ≤ 9) (hd : 0 ≤ d ∧ d ≤ 9) : 0 ≤ fastZ k n l d ∧ fastZ k n l d ≤ 6 ∧ (1 ≤ l → 1 ≤ fastZ k n l d) := by
  have h3 := tmod3 hn.1
  have h2 := tdiv2 hd.1
  unfold fastZ fastB
  (repeat' split) <;> omega
theorem ashZ_rg {k n b : Int} (hn : 0 ≤ n ∧ n ≤ 9) (hb : 0 ≤ b ∧ b ≤ 999) : 0 ≤ ashZ k n b ∧ ashZ k n b ≤ 9999 := by
  have h3 := tdiv3 hb.1
  have h2 := tdiv2 hb.1
  unfold ashZ ashB
  (repeat' split) <;> omega
def WfA (n : Int) (K N P L B : Int → Int) : Prop := ∀ i, 0 ≤ i → i < n → (0 ≤ K i ∧ K i ≤ 5) ∧ (0 ≤ N i ∧ N i ≤ 9) ∧ (0 ≤ P i ∧ P i ≤ 99) ∧ (0 ≤ L i ∧ L i ≤ 2) ∧ (0 ≤ B i ∧ B i ≤ 999) ∧ (P i = 0 → L i = 0)
def WfM (M : fM) : Prop := (0 ≤ M 59 12 ∧ M 59 12 ≤ 4) ∧ (0 ≤ M 59 13 ∧ M 59 13 ≤ 9) ∧ (0 ≤ M 59 14 ∧ M 59 14 ≤ 9999) ∧ WfA (M 59 12) (M 63) (M 64) (M 65) (M 66) (M 67)
def toldZ (n : Int) (K N P L B : Int → Int) (dmp w what : Int) : Int :=
  if ¬ (0 ≤ w ∧ w < n ∧ 0 ≤ what ∧ what ≤ 8) then -2 else if what = 0 then P w else if what = 1 then L w else if what = 2 then B w else if what = 3 then N w else if what = 4 then K w else if what = 5 then fastZ (K w) (N w) (L w) dmp else if what = 6 then ashZ (K w) (N w) (B w) else if what = 7 then fastZ (K w) (N w) 1 dmp else fastZ (K w) (N w) 2 dmp
set_option maxRecDepth 20000 in
set_option maxHeartbeats 4000000 in
theorem t_X7_fast {X : fX} {M : fM} {d : Nat} {w l e : Int} (hw : 0 ≤ w ∧ w < 4) (hk : 0 ≤ M 63 w ∧ M 63 w ≤ 5) (hu : 0 ≤ M 64 w ∧ M 64 w ≤ 9) (hl : 0 ≤ l ∧ l ≤ 2) (he : 0 ≤ e ∧ e ≤ 9) : fC X d mX7_fast [.ref (xa X 59), .int (iv w), .int (iv l), .int (iv e)] M (QI fun r M' => M' = M ∧ r = fastZ (M 63 w) (M 64 w) l e) := by
  have h3 := tmod3 hu.1
  have h2 := tdiv2 he.1
  refine fC.of (L := [_, _, _, _, _, _]) (by decide +kernel) rfl (Nat.le_of_ble_eq_true rfl) (fun Z hZ hR => ?_)
  rcases (show M 63 w = 0 ∨ M 63 w = 1 ∨ M 63 w = 2 ∨ M 63 w = 3 ∨ M 63 w = 4 ∨ M 63 w = 5 by omega) with hkk | hkk | hkk | hkk | hkk | hkk
  · refine f_iload_n hZ dX7_fast_0 rfl ?_
    refine f_ne (tgt := 6) hZ dX7_fast_1 rfl (by omega) (fun h1 => ?_) (fun h1 => ?_)
    · refine f_aload_n hZ dX7_fast_6 rfl ?_
      refine gX7_23 hZ dX7_fast_7 ?_
      refine f_iload_n hZ dX7_fast_10 rfl ?_
      refine f_iaload hZ dX7_fast_11 (by first | rfl | exact hC.t1 | exact hC.t2 | exact hC.t3 | exact hC.t4 | exact hC.t5) (by first | rfl | exact hC.l1 | exact hC.l2 | exact hC.l3 | exact hC.l4 | exact hC.l5) (by omega) (by omega) (fun r11 => ?_)
      refine f_istore (L' := [_, _, _, _, _, _]) hZ dX7_fast_12 rfl rfl ?_
      refine f_iload_n hZ dX7_fast_14 rfl ?_
      refine f_istore (L' := [_, _, _, _, _, _]) hZ dX7_fast_15 rfl rfl ?_
      refine f_iload hZ dX7_fast_17 rfl ?_
      refine f_iconst hZ dX7_fast_19 ?_
      refine f_ieq (tgt := 35) hZ dX7_fast_20 rfl (by omega) (by omega) (fun h20 => ?_) (fun h20 => ?_)
      · exfalso; omega
      · refine f_iload hZ dX7_fast_23 rfl ?_
        refine f_iconst hZ dX7_fast_25 ?_
        refine f_ieq (tgt := 35) hZ dX7_fast_26 rfl (by omega) (by omega) (fun h26 => ?_) (fun h26 => ?_)
        · exfalso; omega
        · refine f_iload hZ dX7_fast_29 rfl ?_
          refine f_iconst hZ dX7_fast_31 ?_
          refine f_ine (tgt := 40) hZ dX7_fast_32 rfl (by omega) (by omega) (fun h32 => ?_) (fun h32 => ?_)
          · refine f_iload hZ dX7_fast_40 rfl ?_
            refine f_iconst hZ dX7_fast_42 ?_
            refine f_ine (tgt := 64) hZ dX7_fast_43 rfl (by omega) (by omega) (fun h43 => ?_) (fun h43 => ?_)
            · refine f_iload hZ dX7_fast_64 rfl ?_
              refine f_iconst hZ dX7_fast_66 ?_
              refine f_ine (tgt := 78) hZ dX7_fast_67 rfl (by omega) (by omega) (fun h67 => ?_) (fun h67 => ?_)
              · refine f_iload hZ dX7_fast_78 rfl ?_
                refine f_iconst hZ dX7_fast_80 ?_
                refine f_ieq (tgt := 90) hZ dX7_fast_81 rfl (by omega) (by omega) (fun h81 => ?_) (fun h81 => ?_)
                · exfalso; omega
                · refine f_iload hZ dX7_fast_84 rfl ?_
                  refine f_iconst hZ dX7_fast_86 ?_
                  refine f_ine (tgt := 103) hZ dX7_fast_87 rfl (by omega) (by omega) (fun h87 => ?_) (fun h87 => ?_)
                  · refine f_iload hZ dX7_fast_103 rfl ?_
                    refine f_iconst hZ dX7_fast_105 ?_
                    refine f_ine (tgt := 117) hZ dX7_fast_106 rfl (by omega) (by omega) (fun h106 => ?_) (fun h106 => ?_)
                    · refine f_iload hZ dX7_fast_117 rfl ?_
                      refine f_iconst hZ dX7_fast_119 ?_
                      refine f_ige (tgt := 127) hZ dX7_fast_120 rfl (by omega) (by omega) (fun h120 => ?_) (fun h120 => ?_)
                      · refine f_iload hZ dX7_fast_127 rfl ?_
                        exact f_retI hZ hR dX7_fast_129 rfl (by omega) (by refine ⟨rfl, ?_⟩; unfold fastZ fastB; rw [hkk]; (repeat' split) <;> omega)
                      · refine f_iconst hZ dX7_fast_123 ?_
                        refine f_goto (tgt := 129) hZ dX7_fast_124 rfl ?_
                        exact f_retI hZ hR dX7_fast_129 rfl (by omega) (by refine ⟨rfl, ?_⟩; unfold fastZ fastB; rw [hkk]; (repeat' split) <;> omega)
                    · exfalso; omega
                  · exfalso; omega
              · exfalso; omega
            · exfalso; omega
          · exfalso; omega
    · refine f_iconst hZ dX7_fast_4 ?_
      exact f_retI hZ hR dX7_fast_5 rfl (by omega) (by refine ⟨rfl, ?_⟩; unfold fastZ fastB; rw [hkk]; (repeat' split) <;> omega)
  · refine f_iload_n hZ dX7_fast_0 rfl ?_
    refine f_ne (tgt := 6) hZ dX7_fast_1 rfl (by omega) (fun h1 => ?_) (fun h1 => ?_)
    · refine f_aload_n hZ dX7_fast_6 rfl ?_
      refine gX7_23 hZ dX7_fast_7 ?_
      refine f_iload_n hZ dX7_fast_10 rfl ?_
      refine f_iaload hZ dX7_fast_11 (by first | rfl | exact hC.t1 | exact hC.t2 | exact hC.t3 | exact hC.t4 | exact hC.t5) (by first | rfl | exact hC.l1 | exact hC.l2 | exact hC.l3 | exact hC.l4 | exact hC.l5) (by omega) (by omega) (fun r11 => ?_)
      refine f_istore (L' := [_, _, _, _, _, _]) hZ dX7_fast_12 rfl rfl ?_
      refine f_iload_n hZ dX7_fast_14 rfl ?_
      refine f_istore (L' := [_, _, _, _, _, _]) hZ dX7_fast_15 rfl rfl ?_
      refine f_iload hZ dX7_fast_17 rfl ?_
      refine f_iconst hZ dX7_fast_19 ?_
      refine f_ieq (tgt := 35) hZ dX7_fast_20 rfl (by omega) (by omega) (fun h20 => ?_) (fun h20 => ?_)
      · refine f_iconst hZ dX7_fast_35 ?_
        refine f_iload_n hZ dX7_fast_36 rfl ?_
        refine f_imul hZ dX7_fast_37 ?_
        refine f_istore (L' := [_, _, _, _, _, _]) hZ dX7_fast_38 rfl rfl ?_
        refine f_iload hZ dX7_fast_40 rfl ?_
        refine f_iconst hZ dX7_fast_42 ?_
        refine f_ine (tgt := 64) hZ dX7_fast_43 rfl (by omega) (by omega) (fun h43 => ?_) (fun h43 => ?_)
        · refine f_iload hZ dX7_fast_64 rfl ?_
          refine f_iconst hZ dX7_fast_66 ?_
          refine f_ine (tgt := 78) hZ dX7_fast_67 rfl (by omega) (by omega) (fun h67 => ?_) (fun h67 => ?_)
          · refine f_iload hZ dX7_fast_78 rfl ?_
            refine f_iconst hZ dX7_fast_80 ?_
            refine f_ieq (tgt := 90) hZ dX7_fast_81 rfl (by omega) (by omega) (fun h81 => ?_) (fun h81 => ?_)
            · exfalso; omega
            · refine f_iload hZ dX7_fast_84 rfl ?_
              refine f_iconst hZ dX7_fast_86 ?_
              refine f_ine (tgt := 103) hZ dX7_fast_87 rfl (by omega) (by omega) (fun h87 => ?_) (fun h87 => ?_)
              · refine f_iload hZ dX7_fast_103 rfl ?_
                refine f_iconst hZ dX7_fast_105 ?_
                refine f_ine (tgt := 117) hZ dX7_fast_106 rfl (by omega) (by omega) (fun h106 => ?_) (fun h106 => ?_)
                · refine f_iload hZ dX7_fast_117 rfl ?_
                  refine f_iconst hZ dX7_fast_119 ?_
                  refine f_ige (tgt := 127) hZ dX7_fast_120 rfl (by omega) (by omega) (fun h120 => ?_) (fun h120 => ?_)
                  · refine f_iload hZ dX7_fast_127 rfl ?_
                    exact f_retI hZ hR dX7_fast_129 rfl (by omega) (by refine ⟨rfl, ?_⟩; unfold fastZ fastB; rw [hkk]; (repeat' split) <;> omega)
                  · refine f_iconst hZ dX7_fast_123 ?_
                    refine f_goto (tgt := 129) hZ dX7_fast_124 rfl ?_
                    exact f_retI hZ hR dX7_fast_129 rfl (by omega) (by refine ⟨rfl, ?_⟩; unfold fastZ fastB; rw [hkk]; (repeat' split) <;> omega)
                · exfalso; omega
              · exfalso; omega
          · exfalso; omega
        · exfalso; omega
      · exfalso; omega
    · refine f_iconst hZ dX7_fast_4 ?_
      exact f_retI hZ hR dX7_fast_5 rfl (by omega) (by refine ⟨rfl, ?_⟩; unfold fastZ fastB; rw [hkk]; (repeat' split) <;> omega)
  · refine f_iload_n hZ dX7_fast_0 rfl ?_
    refine f_ne (tgt := 6) hZ dX7_fast_1 rfl (by omega) (fun h1 => ?_) (fun h1 => ?_)
    · refine f_aload_n hZ dX7_fast_6 rfl ?_
      refine gX7_23 hZ dX7_fast_7 ?_
      refine f_iload_n hZ dX7_fast_10 rfl ?_
      refine f_iaload hZ dX7_fast_11 (by first | rfl | exact hC.t1 | exact hC.t2 | exact hC.t3 | exact hC.t4 | exact hC.t5) (by first | rfl | exact hC.l1 | exact hC.l2 | exact hC.l3 | exact hC.l4 | exact hC.l5) (by omega) (by omega) (fun r11 => ?_)
      refine f_istore (L' := [_, _, _, _, _, _]) hZ dX7_fast_12 rfl rfl ?_
      refine f_iload_n hZ dX7_fast_14 rfl ?_
      refine f_istore (L' := [_, _, _, _, _, _]) hZ dX7_fast_15 rfl rfl ?_
      refine f_iload hZ dX7_fast_17 rfl ?_
      refine f_iconst hZ dX7_fast_19 ?_
      refine f_ieq (tgt := 35) hZ dX7_fast_20 rfl (by omega) (by omega) (fun h20 => ?_) (fun h20 => ?_)
      · exfalso; omega
      · refine f_iload hZ dX7_fast_23 rfl ?_
        refine f_iconst hZ dX7_fast_25 ?_
        refine f_ieq (tgt := 35) hZ dX7_fast_26 rfl (by omega) (by omega) (fun h26 => ?_) (fun h26 => ?_)
        · exfalso; omega
        · refine f_iload hZ dX7_fast_29 rfl ?_
          refine f_iconst hZ dX7_fast_31 ?_
          refine f_ine (tgt := 40) hZ dX7_fast_32 rfl (by omega) (by omega) (fun h32 => ?_) (fun h32 => ?_)
          · refine f_iload hZ dX7_fast_40 rfl ?_
            refine f_iconst hZ dX7_fast_42 ?_
            refine f_ine (tgt := 64) hZ dX7_fast_43 rfl (by omega) (by omega) (fun h43 => ?_) (fun h43 => ?_)
            · refine f_iload hZ dX7_fast_64 rfl ?_
              refine f_iconst hZ dX7_fast_66 ?_
              refine f_ine (tgt := 78) hZ dX7_fast_67 rfl (by omega) (by omega) (fun h67 => ?_) (fun h67 => ?_)
              · refine f_iload hZ dX7_fast_78 rfl ?_
                refine f_iconst hZ dX7_fast_80 ?_
                refine f_ieq (tgt := 90) hZ dX7_fast_81 rfl (by omega) (by omega) (fun h81 => ?_) (fun h81 => ?_)
                · refine f_iload_n hZ dX7_fast_90 rfl ?_
                  refine f_aload_n hZ dX7_fast_91 rfl ?_
                  refine gX7_26 hZ dX7_fast_92 ?_
                  refine f_iload_n hZ dX7_fast_95 rfl ?_
                  refine f_iaload hZ dX7_fast_96 (by first | rfl | exact hC.t1 | exact hC.t2 | exact hC.t3 | exact hC.t4 | exact hC.t5) (by first | rfl | exact hC.l1 | exact hC.l2 | exact hC.l3 | exact hC.l4 | exact hC.l5) (by omega) (by omega) (fun r96 => ?_)
                  refine f_ile (tgt := 103) hZ dX7_fast_97 rfl (by omega) (by omega) (fun h97 => ?_) (fun h97 => ?_)
                  · refine f_iload hZ dX7_fast_103 rfl ?_
                    refine f_iconst hZ dX7_fast_105 ?_
                    refine f_ine (tgt := 117) hZ dX7_fast_106 rfl (by omega) (by omega) (fun h106 => ?_) (fun h106 => ?_)
                    · refine f_iload hZ dX7_fast_117 rfl ?_
                      refine f_iconst hZ dX7_fast_119 ?_
                      refine f_ige (tgt := 127) hZ dX7_fast_120 rfl (by omega) (by omega) (fun h120 => ?_) (fun h120 => ?_)
                      · refine f_iload hZ dX7_fast_127 rfl ?_
                        exact f_retI hZ hR dX7_fast_129 rfl (by omega) (by refine ⟨rfl, ?_⟩; unfold fastZ fastB; rw [hkk]; (repeat' split) <;> omega)
                      · refine f_iconst hZ dX7_fast_123 ?_
                        refine f_goto (tgt := 129) hZ dX7_fast_124 rfl ?_
                        exact f_retI hZ hR dX7_fast_129 rfl (by omega) (by refine ⟨rfl, ?_⟩; unfold fastZ fastB; rw [hkk]; (repeat' split) <;> omega)
                    · exfalso; omega
                  · refine f_iinc (L' := [_, _, _, _, _, _]) hZ dX7_fast_100 rfl rfl ?_
                    refine f_iload hZ dX7_fast_103 rfl ?_
                    refine f_iconst hZ dX7_fast_105 ?_
                    refine f_ine (tgt := 117) hZ dX7_fast_106 rfl (by omega) (by omega) (fun h106 => ?_) (fun h106 => ?_)
                    · refine f_iload hZ dX7_fast_117 rfl ?_
                      refine f_iconst hZ dX7_fast_119 ?_
                      refine f_ige (tgt := 127) hZ dX7_fast_120 rfl (by omega) (by omega) (fun h120 => ?_) (fun h120 => ?_)
                      · refine f_iload hZ dX7_fast_127 rfl ?_
                        exact f_retI hZ hR dX7_fast_129 rfl (by omega) (by refine ⟨rfl, ?_⟩; unfold fastZ fastB; rw [hkk]; (repeat' split) <;> omega)
                      · refine f_iconst hZ dX7_fast_123 ?_
                        refine f_goto (tgt := 129) hZ dX7_fast_124 rfl ?_
                        exact f_retI hZ hR dX7_fast_129 rfl (by omega) (by refine ⟨rfl, ?_⟩; unfold fastZ fastB; rw [hkk]; (repeat' split) <;> omega)
                    · exfalso; omega
                · exfalso; omega
              · exfalso; omega
            · exfalso; omega
          · exfalso; omega
    · refine f_iconst hZ dX7_fast_4 ?_
      exact f_retI hZ hR dX7_fast_5 rfl (by omega) (by refine ⟨rfl, ?_⟩; unfold fastZ fastB; rw [hkk]; (repeat' split) <;> omega)
  · refine f_iload_n hZ dX7_fast_0 rfl ?_
    refine f_ne (tgt := 6) hZ dX7_fast_1 rfl (by omega) (fun h1 => ?_) (fun h1 => ?_)
    · refine f_aload_n hZ dX7_fast_6 rfl ?_
      refine gX7_23 hZ dX7_fast_7 ?_
      refine f_iload_n hZ dX7_fast_10 rfl ?_
      refine f_iaload hZ dX7_fast_11 (by first | rfl | exact hC.t1 | exact hC.t2 | exact hC.t3 | exact hC.t4 | exact hC.t5) (by first | rfl | exact hC.l1 | exact hC.l2 | exact hC.l3 | exact hC.l4 | exact hC.l5) (by omega) (by omega) (fun r11 => ?_)
      refine f_istore (L' := [_, _, _, _, _, _]) hZ dX7_fast_12 rfl rfl ?_
      refine f_iload_n hZ dX7_fast_14 rfl ?_
      refine f_istore (L' := [_, _, _, _, _, _]) hZ dX7_fast_15 rfl rfl ?_
      refine f_iload hZ dX7_fast_17 rfl ?_
      refine f_iconst hZ dX7_fast_19 ?_
      refine f_ieq (tgt := 35) hZ dX7_fast_20 rfl (by omega) (by omega) (fun h20 => ?_) (fun h20 => ?_)
      · exfalso; omega
      · refine f_iload hZ dX7_fast_23 rfl ?_
        refine f_iconst hZ dX7_fast_25 ?_
        refine f_ieq (tgt := 35) hZ dX7_fast_26 rfl (by omega) (by omega) (fun h26 => ?_) (fun h26 => ?_)
        · refine f_iconst hZ dX7_fast_35 ?_
          refine f_iload_n hZ dX7_fast_36 rfl ?_
          refine f_imul hZ dX7_fast_37 ?_
          refine f_istore (L' := [_, _, _, _, _, _]) hZ dX7_fast_38 rfl rfl ?_
          refine f_iload hZ dX7_fast_40 rfl ?_
          refine f_iconst hZ dX7_fast_42 ?_
          refine f_ine (tgt := 64) hZ dX7_fast_43 rfl (by omega) (by omega) (fun h43 => ?_) (fun h43 => ?_)
          · exfalso; omega
          · refine f_iload_n hZ dX7_fast_46 rfl ?_
            refine f_iconst hZ dX7_fast_47 ?_
            refine f_ine (tgt := 64) hZ dX7_fast_48 rfl (by omega) (by omega) (fun h48 => ?_) (fun h48 => ?_)
            · refine f_iload hZ dX7_fast_64 rfl ?_
              refine f_iconst hZ dX7_fast_66 ?_
              refine f_ine (tgt := 78) hZ dX7_fast_67 rfl (by omega) (by omega) (fun h67 => ?_) (fun h67 => ?_)
              · refine f_iload hZ dX7_fast_78 rfl ?_
                refine f_iconst hZ dX7_fast_80 ?_
                refine f_ieq (tgt := 90) hZ dX7_fast_81 rfl (by omega) (by omega) (fun h81 => ?_) (fun h81 => ?_)
                · exfalso; omega
                · refine f_iload hZ dX7_fast_84 rfl ?_
                  refine f_iconst hZ dX7_fast_86 ?_
                  refine f_ine (tgt := 103) hZ dX7_fast_87 rfl (by omega) (by omega) (fun h87 => ?_) (fun h87 => ?_)
                  · refine f_iload hZ dX7_fast_103 rfl ?_
                    refine f_iconst hZ dX7_fast_105 ?_
                    refine f_ine (tgt := 117) hZ dX7_fast_106 rfl (by omega) (by omega) (fun h106 => ?_) (fun h106 => ?_)
                    · refine f_iload hZ dX7_fast_117 rfl ?_
                      refine f_iconst hZ dX7_fast_119 ?_
                      refine f_ige (tgt := 127) hZ dX7_fast_120 rfl (by omega) (by omega) (fun h120 => ?_) (fun h120 => ?_)
                      · refine f_iload hZ dX7_fast_127 rfl ?_
                        exact f_retI hZ hR dX7_fast_129 rfl (by omega) (by refine ⟨rfl, ?_⟩; unfold fastZ fastB; rw [hkk]; (repeat' split) <;> omega)
                      · refine f_iconst hZ dX7_fast_123 ?_
                        refine f_goto (tgt := 129) hZ dX7_fast_124 rfl ?_
                        exact f_retI hZ hR dX7_fast_129 rfl (by omega) (by refine ⟨rfl, ?_⟩; unfold fastZ fastB; rw [hkk]; (repeat' split) <;> omega)
                    · exfalso; omega
                  · exfalso; omega
              · exfalso; omega
            · refine f_iload hZ dX7_fast_51 rfl ?_
              refine f_aload_n hZ dX7_fast_53 rfl ?_
              refine gX7_26 hZ dX7_fast_54 ?_
              refine f_iload_n hZ dX7_fast_57 rfl ?_
              refine f_iaload hZ dX7_fast_58 (by first | rfl | exact hC.t1 | exact hC.t2 | exact hC.t3 | exact hC.t4 | exact hC.t5) (by first | rfl | exact hC.l1 | exact hC.l2 | exact hC.l3 | exact hC.l4 | exact hC.l5) (by omega) (by omega) (fun r58 => ?_)
              refine f_iconst hZ dX7_fast_59 ?_
              refine f_irem hZ dX7_fast_60 (by omega) (by omega) (by omega) (by omega) ?_
              refine f_iadd hZ dX7_fast_61 ?_
              refine f_istore (L' := [_, _, _, _, _, _]) hZ dX7_fast_62 rfl rfl ?_
              refine f_iload hZ dX7_fast_64 rfl ?_
              refine f_iconst hZ dX7_fast_66 ?_
              refine f_ine (tgt := 78) hZ dX7_fast_67 rfl (by omega) (by omega) (fun h67 => ?_) (fun h67 => ?_)
              · refine f_iload hZ dX7_fast_78 rfl ?_
                refine f_iconst hZ dX7_fast_80 ?_
                refine f_ieq (tgt := 90) hZ dX7_fast_81 rfl (by omega) (by omega) (fun h81 => ?_) (fun h81 => ?_)
                · exfalso; omega
                · refine f_iload hZ dX7_fast_84 rfl ?_
                  refine f_iconst hZ dX7_fast_86 ?_
                  refine f_ine (tgt := 103) hZ dX7_fast_87 rfl (by omega) (by omega) (fun h87 => ?_) (fun h87 => ?_)
                  · refine f_iload hZ dX7_fast_103 rfl ?_
                    refine f_iconst hZ dX7_fast_105 ?_
                    refine f_ine (tgt := 117) hZ dX7_fast_106 rfl (by omega) (by omega) (fun h106 => ?_) (fun h106 => ?_)
                    · refine f_iload hZ dX7_fast_117 rfl ?_
                      refine f_iconst hZ dX7_fast_119 ?_
                      refine f_ige (tgt := 127) hZ dX7_fast_120 rfl (by omega) (by omega) (fun h120 => ?_) (fun h120 => ?_)
                      · refine f_iload hZ dX7_fast_127 rfl ?_
                        exact f_retI hZ hR dX7_fast_129 rfl (by omega) (by refine ⟨rfl, ?_⟩; unfold fastZ fastB; rw [hkk]; (repeat' split) <;> omega)
                      · refine f_iconst hZ dX7_fast_123 ?_
                        refine f_goto (tgt := 129) hZ dX7_fast_124 rfl ?_
                        exact f_retI hZ hR dX7_fast_129 rfl (by omega) (by refine ⟨rfl, ?_⟩; unfold fastZ fastB; rw [hkk]; (repeat' split) <;> omega)
                    · exfalso; omega
                  · exfalso; omega
              · exfalso; omega
        · exfalso; omega
    · refine f_iconst hZ dX7_fast_4 ?_
      exact f_retI hZ hR dX7_fast_5 rfl (by omega) (by refine ⟨rfl, ?_⟩; unfold fastZ fastB; rw [hkk]; (repeat' split) <;> omega)
  · refine f_iload_n hZ dX7_fast_0 rfl ?_
    refine f_ne (tgt := 6) hZ dX7_fast_1 rfl (by omega) (fun h1 => ?_) (fun h1 => ?_)
    · refine f_aload_n hZ dX7_fast_6 rfl ?_
      refine gX7_23 hZ dX7_fast_7 ?_
      refine f_iload_n hZ dX7_fast_10 rfl ?_
      refine f_iaload hZ dX7_fast_11 (by first | rfl | exact hC.t1 | exact hC.t2 | exact hC.t3 | exact hC.t4 | exact hC.t5) (by first | rfl | exact hC.l1 | exact hC.l2 | exact hC.l3 | exact hC.l4 | exact hC.l5) (by omega) (by omega) (fun r11 => ?_)
      refine f_istore (L' := [_, _, _, _, _, _]) hZ dX7_fast_12 rfl rfl ?_
      refine f_iload_n hZ dX7_fast_14 rfl ?_
      refine f_istore (L' := [_, _, _, _, _, _]) hZ dX7_fast_15 rfl rfl ?_
      refine f_iload hZ dX7_fast_17 rfl ?_
      refine f_iconst hZ dX7_fast_19 ?_
      refine f_ieq (tgt := 35) hZ dX7_fast_20 rfl (by omega) (by omega) (fun h20 => ?_) (fun h20 => ?_)
      · exfalso; omega
      · refine f_iload hZ dX7_fast_23 rfl ?_
        refine f_iconst hZ dX7_fast_25 ?_
        refine f_ieq (tgt := 35) hZ dX7_fast_26 rfl (by omega) (by omega) (fun h26 => ?_) (fun h26 => ?_)
        · exfalso; omega
        · refine f_iload hZ dX7_fast_29 rfl ?_
          refine f_iconst hZ dX7_fast_31 ?_
          refine f_ine (tgt := 40) hZ dX7_fast_32 rfl (by omega) (by omega) (fun h32 => ?_) (fun h32 => ?_)
          · refine f_iload hZ dX7_fast_40 rfl ?_
            refine f_iconst hZ dX7_fast_42 ?_
            refine f_ine (tgt := 64) hZ dX7_fast_43 rfl (by omega) (by omega) (fun h43 => ?_) (fun h43 => ?_)
            · refine f_iload hZ dX7_fast_64 rfl ?_
              refine f_iconst hZ dX7_fast_66 ?_
              refine f_ine (tgt := 78) hZ dX7_fast_67 rfl (by omega) (by omega) (fun h67 => ?_) (fun h67 => ?_)
              · refine f_iload hZ dX7_fast_78 rfl ?_
                refine f_iconst hZ dX7_fast_80 ?_
                refine f_ieq (tgt := 90) hZ dX7_fast_81 rfl (by omega) (by omega) (fun h81 => ?_) (fun h81 => ?_)
                · exfalso; omega
                · refine f_iload hZ dX7_fast_84 rfl ?_
                  refine f_iconst hZ dX7_fast_86 ?_
                  refine f_ine (tgt := 103) hZ dX7_fast_87 rfl (by omega) (by omega) (fun h87 => ?_) (fun h87 => ?_)
                  · exfalso; omega
                  · refine f_iload_n hZ dX7_fast_90 rfl ?_
                    refine f_aload_n hZ dX7_fast_91 rfl ?_
                    refine gX7_26 hZ dX7_fast_92 ?_
                    refine f_iload_n hZ dX7_fast_95 rfl ?_
                    refine f_iaload hZ dX7_fast_96 (by first | rfl | exact hC.t1 | exact hC.t2 | exact hC.t3 | exact hC.t4 | exact hC.t5) (by first | rfl | exact hC.l1 | exact hC.l2 | exact hC.l3 | exact hC.l4 | exact hC.l5) (by omega) (by omega) (fun r96 => ?_)
                    refine f_ile (tgt := 103) hZ dX7_fast_97 rfl (by omega) (by omega) (fun h97 => ?_) (fun h97 => ?_)
                    · refine f_iload hZ dX7_fast_103 rfl ?_
                      refine f_iconst hZ dX7_fast_105 ?_
                      refine f_ine (tgt := 117) hZ dX7_fast_106 rfl (by omega) (by omega) (fun h106 => ?_) (fun h106 => ?_)
                      · exfalso; omega
                      · refine f_iload_n hZ dX7_fast_109 rfl ?_
                        refine f_iconst hZ dX7_fast_110 ?_
                        refine f_ine (tgt := 117) hZ dX7_fast_111 rfl (by omega) (by omega) (fun h111 => ?_) (fun h111 => ?_)
                        · refine f_iload hZ dX7_fast_117 rfl ?_
                          refine f_iconst hZ dX7_fast_119 ?_
                          refine f_ige (tgt := 127) hZ dX7_fast_120 rfl (by omega) (by omega) (fun h120 => ?_) (fun h120 => ?_)
                          · refine f_iload hZ dX7_fast_127 rfl ?_
                            exact f_retI hZ hR dX7_fast_129 rfl (by omega) (by refine ⟨rfl, ?_⟩; unfold fastZ fastB; rw [hkk]; (repeat' split) <;> omega)
                          · refine f_iconst hZ dX7_fast_123 ?_
                            refine f_goto (tgt := 129) hZ dX7_fast_124 rfl ?_
                            exact f_retI hZ hR dX7_fast_129 rfl (by omega) (by refine ⟨rfl, ?_⟩; unfold fastZ fastB; rw [hkk]; (repeat' split) <;> omega)
                        · refine f_iconst hZ dX7_fast_114 ?_
                          refine f_istore (L' := [_, _, _, _, _, _]) hZ dX7_fast_115 rfl rfl ?_
                          refine f_iload hZ dX7_fast_117 rfl ?_
                          refine f_iconst hZ dX7_fast_119 ?_
                          refine f_ige (tgt := 127) hZ dX7_fast_120 rfl (by omega) (by omega) (fun h120 => ?_) (fun h120 => ?_)
                          · refine f_iload hZ dX7_fast_127 rfl ?_
                            exact f_retI hZ hR dX7_fast_129 rfl (by omega) (by refine ⟨rfl, ?_⟩; unfold fastZ fastB; rw [hkk]; (repeat' split) <;> omega)
                          · exfalso; omega
                    · refine f_iinc (L' := [_, _, _, _, _, _]) hZ dX7_fast_100 rfl rfl ?_
                      refine f_iload hZ dX7_fast_103 rfl ?_
                      refine f_iconst hZ dX7_fast_105 ?_
                      refine f_ine (tgt := 117) hZ dX7_fast_106 rfl (by omega) (by omega) (fun h106 => ?_) (fun h106 => ?_)
                      · exfalso; omega
                      · refine f_iload_n hZ dX7_fast_109 rfl ?_
                        refine f_iconst hZ dX7_fast_110 ?_
                        refine f_ine (tgt := 117) hZ dX7_fast_111 rfl (by omega) (by omega) (fun h111 => ?_) (fun h111 => ?_)
                        · refine f_iload hZ dX7_fast_117 rfl ?_
                          refine f_iconst hZ dX7_fast_119 ?_
                          refine f_ige (tgt := 127) hZ dX7_fast_120 rfl (by omega) (by omega) (fun h120 => ?_) (fun h120 => ?_)
                          · refine f_iload hZ dX7_fast_127 rfl ?_
                            exact f_retI hZ hR dX7_fast_129 rfl (by omega) (by refine ⟨rfl, ?_⟩; unfold fastZ fastB; rw [hkk]; (repeat' split) <;> omega)
                          · refine f_iconst hZ dX7_fast_123 ?_
                            refine f_goto (tgt := 129) hZ dX7_fast_124 rfl ?_
                            exact f_retI hZ hR dX7_fast_129 rfl (by omega) (by refine ⟨rfl, ?_⟩; unfold fastZ fastB; rw [hkk]; (repeat' split) <;> omega)
                        · refine f_iconst hZ dX7_fast_114 ?_
                          refine f_istore (L' := [_, _, _, _, _, _]) hZ dX7_fast_115 rfl rfl ?_
                          refine f_iload hZ dX7_fast_117 rfl ?_
                          refine f_iconst hZ dX7_fast_119 ?_
                          refine f_ige (tgt := 127) hZ dX7_fast_120 rfl (by omega) (by omega) (fun h120 => ?_) (fun h120 => ?_)
                          · refine f_iload hZ dX7_fast_127 rfl ?_
                            exact f_retI hZ hR dX7_fast_129 rfl (by omega) (by refine ⟨rfl, ?_⟩; unfold fastZ fastB; rw [hkk]; (repeat' split) <;> omega)
                          · exfalso; omega
              · exfalso; omega
            · exfalso; omega
          · exfalso; omega
    · refine f_iconst hZ dX7_fast_4 ?_
      exact f_retI hZ hR dX7_fast_5 rfl (by omega) (by refine ⟨rfl, ?_⟩; unfold fastZ fastB; rw [hkk]; (repeat' split) <;> omega)
  · refine f_iload_n hZ dX7_fast_0 rfl ?_
    refine f_ne (tgt := 6) hZ dX7_fast_1 rfl (by omega) (fun h1 => ?_) (fun h1 => ?_)
    · refine f_aload_n hZ dX7_fast_6 rfl ?_
      refine gX7_23 hZ dX7_fast_7 ?_
      refine f_iload_n hZ dX7_fast_10 rfl ?_
      refine f_iaload hZ dX7_fast_11 (by first | rfl | exact hC.t1 | exact hC.t2 | exact hC.t3 | exact hC.t4 | exact hC.t5) (by first | rfl | exact hC.l1 | exact hC.l2 | exact hC.l3 | exact hC.l4 | exact hC.l5) (by omega) (by omega) (fun r11 => ?_)
      refine f_istore (L' := [_, _, _, _, _, _]) hZ dX7_fast_12 rfl rfl ?_
      refine f_iload_n hZ dX7_fast_14 rfl ?_
      refine f_istore (L' := [_, _, _, _, _, _]) hZ dX7_fast_15 rfl rfl ?_
      refine f_iload hZ dX7_fast_17 rfl ?_
      refine f_iconst hZ dX7_fast_19 ?_
      refine f_ieq (tgt := 35) hZ dX7_fast_20 rfl (by omega) (by omega) (fun h20 => ?_) (fun h20 => ?_)
      · exfalso; omega
      · refine f_iload hZ dX7_fast_23 rfl ?_
        refine f_iconst hZ dX7_fast_25 ?_
        refine f_ieq (tgt := 35) hZ dX7_fast_26 rfl (by omega) (by omega) (fun h26 => ?_) (fun h26 => ?_)
        · exfalso; omega
        · refine f_iload hZ dX7_fast_29 rfl ?_
          refine f_iconst hZ dX7_fast_31 ?_
          refine f_ine (tgt := 40) hZ dX7_fast_32 rfl (by omega) (by omega) (fun h32 => ?_) (fun h32 => ?_)
          · exfalso; omega
          · refine f_iconst hZ dX7_fast_35 ?_
            refine f_iload_n hZ dX7_fast_36 rfl ?_
            refine f_imul hZ dX7_fast_37 ?_
            refine f_istore (L' := [_, _, _, _, _, _]) hZ dX7_fast_38 rfl rfl ?_
            refine f_iload hZ dX7_fast_40 rfl ?_
            refine f_iconst hZ dX7_fast_42 ?_
            refine f_ine (tgt := 64) hZ dX7_fast_43 rfl (by omega) (by omega) (fun h43 => ?_) (fun h43 => ?_)
            · refine f_iload hZ dX7_fast_64 rfl ?_
              refine f_iconst hZ dX7_fast_66 ?_
              refine f_ine (tgt := 78) hZ dX7_fast_67 rfl (by omega) (by omega) (fun h67 => ?_) (fun h67 => ?_)
              · exfalso; omega
              · refine f_iload hZ dX7_fast_70 rfl ?_
                refine f_iload_n hZ dX7_fast_72 rfl ?_
                refine f_iconst hZ dX7_fast_73 ?_
                refine f_idiv hZ dX7_fast_74 (by omega) (by omega) (by omega) (by omega) ?_
                refine f_isub hZ dX7_fast_75 ?_
                refine f_istore (L' := [_, _, _, _, _, _]) hZ dX7_fast_76 rfl rfl ?_
                refine f_iload hZ dX7_fast_78 rfl ?_
                refine f_iconst hZ dX7_fast_80 ?_
                refine f_ieq (tgt := 90) hZ dX7_fast_81 rfl (by omega) (by omega) (fun h81 => ?_) (fun h81 => ?_)
                · exfalso; omega
                · refine f_iload hZ dX7_fast_84 rfl ?_
                  refine f_iconst hZ dX7_fast_86 ?_
                  refine f_ine (tgt := 103) hZ dX7_fast_87 rfl (by omega) (by omega) (fun h87 => ?_) (fun h87 => ?_)
                  · refine f_iload hZ dX7_fast_103 rfl ?_
                    refine f_iconst hZ dX7_fast_105 ?_
                    refine f_ine (tgt := 117) hZ dX7_fast_106 rfl (by omega) (by omega) (fun h106 => ?_) (fun h106 => ?_)
                    · refine f_iload hZ dX7_fast_117 rfl ?_
                      refine f_iconst hZ dX7_fast_119 ?_
                      refine f_ige (tgt := 127) hZ dX7_fast_120 rfl (by omega) (by omega) (fun h120 => ?_) (fun h120 => ?_)
                      · refine f_iload hZ dX7_fast_127 rfl ?_
                        exact f_retI hZ hR dX7_fast_129 rfl (by omega) (by refine ⟨rfl, ?_⟩; unfold fastZ fastB; rw [hkk]; (repeat' split) <;> omega)
                      · refine f_iconst hZ dX7_fast_123 ?_
                        refine f_goto (tgt := 129) hZ dX7_fast_124 rfl ?_
                        exact f_retI hZ hR dX7_fast_129 rfl (by omega) (by refine ⟨rfl, ?_⟩; unfold fastZ fastB; rw [hkk]; (repeat' split) <;> omega)
                    · exfalso; omega
                  · exfalso; omega
            · exfalso; omega
    · refine f_iconst hZ dX7_fast_4 ?_
      exact f_retI hZ hR dX7_fast_5 rfl (by omega) (by refine ⟨rfl, ?_⟩; unfold fastZ fastB; rw [hkk]; (repeat' split) <;> omega)

set_option maxRecDepth 20000 in
set_option maxHeartbeats 4000000 in
theorem t_X7_ash {X : fX} {M : fM} {d : Nat} {w b : Int} (hw : 0 ≤ w ∧ w < 4) (hk : 0 ≤ M 63 w ∧ M 63 w ≤ 5) (hu : 0 ≤ M 64 w ∧ M 64 w ≤ 9) (hb : 0 ≤ b ∧ b ≤ 999) : fC X d mX7_ash [.ref (xa X 59), .int (iv w), .int (iv b)] M (QI fun r M' => M' = M ∧ r = ashZ (M 63 w) (M 64 w) b) := by
  have h3 := tdiv3 hb.1
  have h2 := tdiv2 hb.1
  refine fC.of (L := [_, _, _, _, _]) (by decide +kernel) rfl (Nat.le_of_ble_eq_true rfl) (fun Z hZ hR => ?_)
  rcases (show M 63 w = 0 ∨ M 63 w = 1 ∨ M 63 w = 2 ∨ M 63 w = 3 ∨ M 63 w = 4 ∨ M 63 w = 5 by omega) with hkk | hkk | hkk | hkk | hkk | hkk
  · refine f_aload_n hZ dX7_ash_0 rfl ?_
    refine gX7_23 hZ dX7_ash_1 ?_
    refine f_iload_n hZ dX7_ash_4 rfl ?_
    refine f_iaload hZ dX7_ash_5 (by first | rfl | exact hC.t1 | exact hC.t2 | exact hC.t3 | exact hC.t4 | exact hC.t5) (by first | rfl | exact hC.l1 | exact hC.l2 | exact hC.l3 | exact hC.l4 | exact hC.l5) (by omega) (by omega) (fun r5 => ?_)
    refine f_istore_n (L' := [_, _, _, _, _]) hZ dX7_ash_6 rfl rfl ?_
    refine f_iload_n hZ dX7_ash_7 rfl ?_
    refine f_istore (L' := [_, _, _, _, _]) hZ dX7_ash_8 rfl rfl ?_
    refine f_iload_n hZ dX7_ash_10 rfl ?_
    refine f_iconst hZ dX7_ash_11 ?_
    refine f_ieq (tgt := 25) hZ dX7_ash_12 rfl (by omega) (by omega) (fun h12 => ?_) (fun h12 => ?_)
    · exfalso; omega
    · refine f_iload_n hZ dX7_ash_15 rfl ?_
      refine f_iconst hZ dX7_ash_16 ?_
      refine f_ieq (tgt := 25) hZ dX7_ash_17 rfl (by omega) (by omega) (fun h17 => ?_) (fun h17 => ?_)
      · exfalso; omega
      · refine f_iload_n hZ dX7_ash_20 rfl ?_
        refine f_iconst hZ dX7_ash_21 ?_
        refine f_ine (tgt := 30) hZ dX7_ash_22 rfl (by omega) (by omega) (fun h22 => ?_) (fun h22 => ?_)
        · refine f_iload_n hZ dX7_ash_30 rfl ?_
          refine f_iconst hZ dX7_ash_31 ?_
          refine f_ine (tgt := 46) hZ dX7_ash_32 rfl (by omega) (by omega) (fun h32 => ?_) (fun h32 => ?_)
          · refine f_iload_n hZ dX7_ash_46 rfl ?_
            refine f_iconst hZ dX7_ash_47 ?_
            refine f_ine (tgt := 59) hZ dX7_ash_48 rfl (by omega) (by omega) (fun h48 => ?_) (fun h48 => ?_)
            · refine f_iload_n hZ dX7_ash_59 rfl ?_
              refine f_iconst hZ dX7_ash_60 ?_
              refine f_ine (tgt := 75) hZ dX7_ash_61 rfl (by omega) (by omega) (fun h61 => ?_) (fun h61 => ?_)
              · refine f_iload_n hZ dX7_ash_75 rfl ?_
                refine f_iconst hZ dX7_ash_76 ?_
                refine f_ine (tgt := 92) hZ dX7_ash_77 rfl (by omega) (by omega) (fun h77 => ?_) (fun h77 => ?_)
                · refine f_iload hZ dX7_ash_92 rfl ?_
                  refine f_ge (tgt := 101) hZ dX7_ash_94 rfl (by omega) (fun h94 => ?_) (fun h94 => ?_)
                  · refine f_iload hZ dX7_ash_101 rfl ?_
                    exact f_retI hZ hR dX7_ash_103 rfl (by omega) (by refine ⟨rfl, ?_⟩; unfold ashZ ashB; rw [hkk]; (repeat' split) <;> omega)
                  · refine f_iconst hZ dX7_ash_97 ?_
                    refine f_goto (tgt := 103) hZ dX7_ash_98 rfl ?_
                    exact f_retI hZ hR dX7_ash_103 rfl (by omega) (by refine ⟨rfl, ?_⟩; unfold ashZ ashB; rw [hkk]; (repeat' split) <;> omega)
                · exfalso; omega
              · exfalso; omega
            · exfalso; omega
          · exfalso; omega
        · exfalso; omega
  · refine f_aload_n hZ dX7_ash_0 rfl ?_
    refine gX7_23 hZ dX7_ash_1 ?_
    refine f_iload_n hZ dX7_ash_4 rfl ?_
    refine f_iaload hZ dX7_ash_5 (by first | rfl | exact hC.t1 | exact hC.t2 | exact hC.t3 | exact hC.t4 | exact hC.t5) (by first | rfl | exact hC.l1 | exact hC.l2 | exact hC.l3 | exact hC.l4 | exact hC.l5) (by omega) (by omega) (fun r5 => ?_)
    refine f_istore_n (L' := [_, _, _, _, _]) hZ dX7_ash_6 rfl rfl ?_
    refine f_iload_n hZ dX7_ash_7 rfl ?_
    refine f_istore (L' := [_, _, _, _, _]) hZ dX7_ash_8 rfl rfl ?_
    refine f_iload_n hZ dX7_ash_10 rfl ?_
    refine f_iconst hZ dX7_ash_11 ?_
    refine f_ieq (tgt := 25) hZ dX7_ash_12 rfl (by omega) (by omega) (fun h12 => ?_) (fun h12 => ?_)
    · refine f_iload_n hZ dX7_ash_25 rfl ?_
      refine f_iconst hZ dX7_ash_26 ?_
      refine f_idiv hZ dX7_ash_27 (by omega) (by omega) (by omega) (by omega) ?_
      refine f_istore (L' := [_, _, _, _, _]) hZ dX7_ash_28 rfl rfl ?_
      refine f_iload_n hZ dX7_ash_30 rfl ?_
      refine f_iconst hZ dX7_ash_31 ?_
      refine f_ine (tgt := 46) hZ dX7_ash_32 rfl (by omega) (by omega) (fun h32 => ?_) (fun h32 => ?_)
      · refine f_iload_n hZ dX7_ash_46 rfl ?_
        refine f_iconst hZ dX7_ash_47 ?_
        refine f_ine (tgt := 59) hZ dX7_ash_48 rfl (by omega) (by omega) (fun h48 => ?_) (fun h48 => ?_)
        · refine f_iload_n hZ dX7_ash_59 rfl ?_
          refine f_iconst hZ dX7_ash_60 ?_
          refine f_ine (tgt := 75) hZ dX7_ash_61 rfl (by omega) (by omega) (fun h61 => ?_) (fun h61 => ?_)
          · refine f_iload_n hZ dX7_ash_75 rfl ?_
            refine f_iconst hZ dX7_ash_76 ?_
            refine f_ine (tgt := 92) hZ dX7_ash_77 rfl (by omega) (by omega) (fun h77 => ?_) (fun h77 => ?_)
            · refine f_iload hZ dX7_ash_92 rfl ?_
              refine f_ge (tgt := 101) hZ dX7_ash_94 rfl (by omega) (fun h94 => ?_) (fun h94 => ?_)
              · refine f_iload hZ dX7_ash_101 rfl ?_
                exact f_retI hZ hR dX7_ash_103 rfl (by omega) (by refine ⟨rfl, ?_⟩; unfold ashZ ashB; rw [hkk]; (repeat' split) <;> omega)
              · refine f_iconst hZ dX7_ash_97 ?_
                refine f_goto (tgt := 103) hZ dX7_ash_98 rfl ?_
                exact f_retI hZ hR dX7_ash_103 rfl (by omega) (by refine ⟨rfl, ?_⟩; unfold ashZ ashB; rw [hkk]; (repeat' split) <;> omega)
            · exfalso; omega
          · exfalso; omega
        · exfalso; omega
      · exfalso; omega
    · exfalso; omega
  · refine f_aload_n hZ dX7_ash_0 rfl ?_
    refine gX7_23 hZ dX7_ash_1 ?_
    refine f_iload_n hZ dX7_ash_4 rfl ?_
    refine f_iaload hZ dX7_ash_5 (by first | rfl | exact hC.t1 | exact hC.t2 | exact hC.t3 | exact hC.t4 | exact hC.t5) (by first | rfl | exact hC.l1 | exact hC.l2 | exact hC.l3 | exact hC.l4 | exact hC.l5) (by omega) (by omega) (fun r5 => ?_)
    refine f_istore_n (L' := [_, _, _, _, _]) hZ dX7_ash_6 rfl rfl ?_
    refine f_iload_n hZ dX7_ash_7 rfl ?_
    refine f_istore (L' := [_, _, _, _, _]) hZ dX7_ash_8 rfl rfl ?_
    refine f_iload_n hZ dX7_ash_10 rfl ?_
    refine f_iconst hZ dX7_ash_11 ?_
    refine f_ieq (tgt := 25) hZ dX7_ash_12 rfl (by omega) (by omega) (fun h12 => ?_) (fun h12 => ?_)
    · exfalso; omega
    · refine f_iload_n hZ dX7_ash_15 rfl ?_
      refine f_iconst hZ dX7_ash_16 ?_
      refine f_ieq (tgt := 25) hZ dX7_ash_17 rfl (by omega) (by omega) (fun h17 => ?_) (fun h17 => ?_)
      · exfalso; omega
      · refine f_iload_n hZ dX7_ash_20 rfl ?_
        refine f_iconst hZ dX7_ash_21 ?_
        refine f_ine (tgt := 30) hZ dX7_ash_22 rfl (by omega) (by omega) (fun h22 => ?_) (fun h22 => ?_)
        · refine f_iload_n hZ dX7_ash_30 rfl ?_
          refine f_iconst hZ dX7_ash_31 ?_
          refine f_ine (tgt := 46) hZ dX7_ash_32 rfl (by omega) (by omega) (fun h32 => ?_) (fun h32 => ?_)
          · refine f_iload_n hZ dX7_ash_46 rfl ?_
            refine f_iconst hZ dX7_ash_47 ?_
            refine f_ine (tgt := 59) hZ dX7_ash_48 rfl (by omega) (by omega) (fun h48 => ?_) (fun h48 => ?_)
            · refine f_iload_n hZ dX7_ash_59 rfl ?_
              refine f_iconst hZ dX7_ash_60 ?_
              refine f_ine (tgt := 75) hZ dX7_ash_61 rfl (by omega) (by omega) (fun h61 => ?_) (fun h61 => ?_)
              · exfalso; omega
              · refine f_iload hZ dX7_ash_64 rfl ?_
                refine f_aload_n hZ dX7_ash_66 rfl ?_
                refine gX7_26 hZ dX7_ash_67 ?_
                refine f_iload_n hZ dX7_ash_70 rfl ?_
                refine f_iaload hZ dX7_ash_71 (by first | rfl | exact hC.t1 | exact hC.t2 | exact hC.t3 | exact hC.t4 | exact hC.t5) (by first | rfl | exact hC.l1 | exact hC.l2 | exact hC.l3 | exact hC.l4 | exact hC.l5) (by omega) (by omega) (fun r71 => ?_)
                refine f_iadd hZ dX7_ash_72 ?_
                refine f_istore (L' := [_, _, _, _, _]) hZ dX7_ash_73 rfl rfl ?_
                refine f_iload_n hZ dX7_ash_75 rfl ?_
                refine f_iconst hZ dX7_ash_76 ?_
                refine f_ine (tgt := 92) hZ dX7_ash_77 rfl (by omega) (by omega) (fun h77 => ?_) (fun h77 => ?_)
                · refine f_iload hZ dX7_ash_92 rfl ?_
                  refine f_ge (tgt := 101) hZ dX7_ash_94 rfl (by omega) (fun h94 => ?_) (fun h94 => ?_)
                  · refine f_iload hZ dX7_ash_101 rfl ?_
                    exact f_retI hZ hR dX7_ash_103 rfl (by omega) (by refine ⟨rfl, ?_⟩; unfold ashZ ashB; rw [hkk]; (repeat' split) <;> omega)
                  · refine f_iconst hZ dX7_ash_97 ?_
                    refine f_goto (tgt := 103) hZ dX7_ash_98 rfl ?_
                    exact f_retI hZ hR dX7_ash_103 rfl (by omega) (by refine ⟨rfl, ?_⟩; unfold ashZ ashB; rw [hkk]; (repeat' split) <;> omega)
                · exfalso; omega
            · exfalso; omega
          · exfalso; omega
        · exfalso; omega
  · refine f_aload_n hZ dX7_ash_0 rfl ?_
    refine gX7_23 hZ dX7_ash_1 ?_
    refine f_iload_n hZ dX7_ash_4 rfl ?_
    refine f_iaload hZ dX7_ash_5 (by first | rfl | exact hC.t1 | exact hC.t2 | exact hC.t3 | exact hC.t4 | exact hC.t5) (by first | rfl | exact hC.l1 | exact hC.l2 | exact hC.l3 | exact hC.l4 | exact hC.l5) (by omega) (by omega) (fun r5 => ?_)
    refine f_istore_n (L' := [_, _, _, _, _]) hZ dX7_ash_6 rfl rfl ?_
    refine f_iload_n hZ dX7_ash_7 rfl ?_
    refine f_istore (L' := [_, _, _, _, _]) hZ dX7_ash_8 rfl rfl ?_
    refine f_iload_n hZ dX7_ash_10 rfl ?_
    refine f_iconst hZ dX7_ash_11 ?_
    refine f_ieq (tgt := 25) hZ dX7_ash_12 rfl (by omega) (by omega) (fun h12 => ?_) (fun h12 => ?_)
    · exfalso; omega
    · refine f_iload_n hZ dX7_ash_15 rfl ?_
      refine f_iconst hZ dX7_ash_16 ?_
      refine f_ieq (tgt := 25) hZ dX7_ash_17 rfl (by omega) (by omega) (fun h17 => ?_) (fun h17 => ?_)
      · refine f_iload_n hZ dX7_ash_25 rfl ?_
        refine f_iconst hZ dX7_ash_26 ?_
        refine f_idiv hZ dX7_ash_27 (by omega) (by omega) (by omega) (by omega) ?_
        refine f_istore (L' := [_, _, _, _, _]) hZ dX7_ash_28 rfl rfl ?_
        refine f_iload_n hZ dX7_ash_30 rfl ?_
        refine f_iconst hZ dX7_ash_31 ?_
        refine f_ine (tgt := 46) hZ dX7_ash_32 rfl (by omega) (by omega) (fun h32 => ?_) (fun h32 => ?_)
        · exfalso; omega
        · refine f_iload hZ dX7_ash_35 rfl ?_
          refine f_aload_n hZ dX7_ash_37 rfl ?_
          refine gX7_26 hZ dX7_ash_38 ?_
          refine f_iload_n hZ dX7_ash_41 rfl ?_
          refine f_iaload hZ dX7_ash_42 (by first | rfl | exact hC.t1 | exact hC.t2 | exact hC.t3 | exact hC.t4 | exact hC.t5) (by first | rfl | exact hC.l1 | exact hC.l2 | exact hC.l3 | exact hC.l4 | exact hC.l5) (by omega) (by omega) (fun r42 => ?_)
          refine f_isub hZ dX7_ash_43 ?_
          refine f_istore (L' := [_, _, _, _, _]) hZ dX7_ash_44 rfl rfl ?_
          refine f_iload_n hZ dX7_ash_46 rfl ?_
          refine f_iconst hZ dX7_ash_47 ?_
          refine f_ine (tgt := 59) hZ dX7_ash_48 rfl (by omega) (by omega) (fun h48 => ?_) (fun h48 => ?_)
          · refine f_iload_n hZ dX7_ash_59 rfl ?_
            refine f_iconst hZ dX7_ash_60 ?_
            refine f_ine (tgt := 75) hZ dX7_ash_61 rfl (by omega) (by omega) (fun h61 => ?_) (fun h61 => ?_)
            · refine f_iload_n hZ dX7_ash_75 rfl ?_
              refine f_iconst hZ dX7_ash_76 ?_
              refine f_ine (tgt := 92) hZ dX7_ash_77 rfl (by omega) (by omega) (fun h77 => ?_) (fun h77 => ?_)
              · refine f_iload hZ dX7_ash_92 rfl ?_
                refine f_ge (tgt := 101) hZ dX7_ash_94 rfl (by omega) (fun h94 => ?_) (fun h94 => ?_)
                · refine f_iload hZ dX7_ash_101 rfl ?_
                  exact f_retI hZ hR dX7_ash_103 rfl (by omega) (by refine ⟨rfl, ?_⟩; unfold ashZ ashB; rw [hkk]; (repeat' split) <;> omega)
                · refine f_iconst hZ dX7_ash_97 ?_
                  refine f_goto (tgt := 103) hZ dX7_ash_98 rfl ?_
                  exact f_retI hZ hR dX7_ash_103 rfl (by omega) (by refine ⟨rfl, ?_⟩; unfold ashZ ashB; rw [hkk]; (repeat' split) <;> omega)
              · exfalso; omega
            · exfalso; omega
          · exfalso; omega
      · exfalso; omega
  · refine f_aload_n hZ dX7_ash_0 rfl ?_
    refine gX7_23 hZ dX7_ash_1 ?_
    refine f_iload_n hZ dX7_ash_4 rfl ?_
    refine f_iaload hZ dX7_ash_5 (by first | rfl | exact hC.t1 | exact hC.t2 | exact hC.t3 | exact hC.t4 | exact hC.t5) (by first | rfl | exact hC.l1 | exact hC.l2 | exact hC.l3 | exact hC.l4 | exact hC.l5) (by omega) (by omega) (fun r5 => ?_)
    refine f_istore_n (L' := [_, _, _, _, _]) hZ dX7_ash_6 rfl rfl ?_
    refine f_iload_n hZ dX7_ash_7 rfl ?_
    refine f_istore (L' := [_, _, _, _, _]) hZ dX7_ash_8 rfl rfl ?_
    refine f_iload_n hZ dX7_ash_10 rfl ?_
    refine f_iconst hZ dX7_ash_11 ?_
    refine f_ieq (tgt := 25) hZ dX7_ash_12 rfl (by omega) (by omega) (fun h12 => ?_) (fun h12 => ?_)
    · exfalso; omega
    · refine f_iload_n hZ dX7_ash_15 rfl ?_
      refine f_iconst hZ dX7_ash_16 ?_
      refine f_ieq (tgt := 25) hZ dX7_ash_17 rfl (by omega) (by omega) (fun h17 => ?_) (fun h17 => ?_)
      · exfalso; omega
      · refine f_iload_n hZ dX7_ash_20 rfl ?_
        refine f_iconst hZ dX7_ash_21 ?_
        refine f_ine (tgt := 30) hZ dX7_ash_22 rfl (by omega) (by omega) (fun h22 => ?_) (fun h22 => ?_)
        · refine f_iload_n hZ dX7_ash_30 rfl ?_
          refine f_iconst hZ dX7_ash_31 ?_
          refine f_ine (tgt := 46) hZ dX7_ash_32 rfl (by omega) (by omega) (fun h32 => ?_) (fun h32 => ?_)
          · refine f_iload_n hZ dX7_ash_46 rfl ?_
            refine f_iconst hZ dX7_ash_47 ?_
            refine f_ine (tgt := 59) hZ dX7_ash_48 rfl (by omega) (by omega) (fun h48 => ?_) (fun h48 => ?_)
            · refine f_iload_n hZ dX7_ash_59 rfl ?_
              refine f_iconst hZ dX7_ash_60 ?_
              refine f_ine (tgt := 75) hZ dX7_ash_61 rfl (by omega) (by omega) (fun h61 => ?_) (fun h61 => ?_)
              · refine f_iload_n hZ dX7_ash_75 rfl ?_
                refine f_iconst hZ dX7_ash_76 ?_
                refine f_ine (tgt := 92) hZ dX7_ash_77 rfl (by omega) (by omega) (fun h77 => ?_) (fun h77 => ?_)
                · exfalso; omega
                · refine f_iconst hZ dX7_ash_80 ?_
                  refine f_iload_n hZ dX7_ash_81 rfl ?_
                  refine f_aload_n hZ dX7_ash_82 rfl ?_
                  refine gX7_26 hZ dX7_ash_83 ?_
                  refine f_iload_n hZ dX7_ash_86 rfl ?_
                  refine f_iaload hZ dX7_ash_87 (by first | rfl | exact hC.t1 | exact hC.t2 | exact hC.t3 | exact hC.t4 | exact hC.t5) (by first | rfl | exact hC.l1 | exact hC.l2 | exact hC.l3 | exact hC.l4 | exact hC.l5) (by omega) (by omega) (fun r87 => ?_)
                  refine f_iadd hZ dX7_ash_88 ?_
                  refine f_imul hZ dX7_ash_89 ?_
                  refine f_istore (L' := [_, _, _, _, _]) hZ dX7_ash_90 rfl rfl ?_
                  refine f_iload hZ dX7_ash_92 rfl ?_
                  refine f_ge (tgt := 101) hZ dX7_ash_94 rfl (by omega) (fun h94 => ?_) (fun h94 => ?_)
                  · refine f_iload hZ dX7_ash_101 rfl ?_
                    exact f_retI hZ hR dX7_ash_103 rfl (by omega) (by refine ⟨rfl, ?_⟩; unfold ashZ ashB; rw [hkk]; (repeat' split) <;> omega)
                  · refine f_iconst hZ dX7_ash_97 ?_
                    refine f_goto (tgt := 103) hZ dX7_ash_98 rfl ?_
                    exact f_retI hZ hR dX7_ash_103 rfl (by omega) (by refine ⟨rfl, ?_⟩; unfold ashZ ashB; rw [hkk]; (repeat' split) <;> omega)
              · exfalso; omega
            · exfalso; omega
          · exfalso; omega
        · exfalso; omega
  · refine f_aload_n hZ dX7_ash_0 rfl ?_
    refine gX7_23 hZ dX7_ash_1 ?_
    refine f_iload_n hZ dX7_ash_4 rfl ?_
    refine f_iaload hZ dX7_ash_5 (by first | rfl | exact hC.t1 | exact hC.t2 | exact hC.t3 | exact hC.t4 | exact hC.t5) (by first | rfl | exact hC.l1 | exact hC.l2 | exact hC.l3 | exact hC.l4 | exact hC.l5) (by omega) (by omega) (fun r5 => ?_)
    refine f_istore_n (L' := [_, _, _, _, _]) hZ dX7_ash_6 rfl rfl ?_
    refine f_iload_n hZ dX7_ash_7 rfl ?_
    refine f_istore (L' := [_, _, _, _, _]) hZ dX7_ash_8 rfl rfl ?_
    refine f_iload_n hZ dX7_ash_10 rfl ?_
    refine f_iconst hZ dX7_ash_11 ?_
    refine f_ieq (tgt := 25) hZ dX7_ash_12 rfl (by omega) (by omega) (fun h12 => ?_) (fun h12 => ?_)
    · exfalso; omega
    · refine f_iload_n hZ dX7_ash_15 rfl ?_
      refine f_iconst hZ dX7_ash_16 ?_
      refine f_ieq (tgt := 25) hZ dX7_ash_17 rfl (by omega) (by omega) (fun h17 => ?_) (fun h17 => ?_)
      · exfalso; omega
      · refine f_iload_n hZ dX7_ash_20 rfl ?_
        refine f_iconst hZ dX7_ash_21 ?_
        refine f_ine (tgt := 30) hZ dX7_ash_22 rfl (by omega) (by omega) (fun h22 => ?_) (fun h22 => ?_)
        · exfalso; omega
        · refine f_iload_n hZ dX7_ash_25 rfl ?_
          refine f_iconst hZ dX7_ash_26 ?_
          refine f_idiv hZ dX7_ash_27 (by omega) (by omega) (by omega) (by omega) ?_
          refine f_istore (L' := [_, _, _, _, _]) hZ dX7_ash_28 rfl rfl ?_
          refine f_iload_n hZ dX7_ash_30 rfl ?_
          refine f_iconst hZ dX7_ash_31 ?_
          refine f_ine (tgt := 46) hZ dX7_ash_32 rfl (by omega) (by omega) (fun h32 => ?_) (fun h32 => ?_)
          · refine f_iload_n hZ dX7_ash_46 rfl ?_
            refine f_iconst hZ dX7_ash_47 ?_
            refine f_ine (tgt := 59) hZ dX7_ash_48 rfl (by omega) (by omega) (fun h48 => ?_) (fun h48 => ?_)
            · exfalso; omega
            · refine f_iload hZ dX7_ash_51 rfl ?_
              refine f_iload_n hZ dX7_ash_53 rfl ?_
              refine f_iconst hZ dX7_ash_54 ?_
              refine f_idiv hZ dX7_ash_55 (by omega) (by omega) (by omega) (by omega) ?_
              refine f_iadd hZ dX7_ash_56 ?_
              refine f_istore (L' := [_, _, _, _, _]) hZ dX7_ash_57 rfl rfl ?_
              refine f_iload_n hZ dX7_ash_59 rfl ?_
              refine f_iconst hZ dX7_ash_60 ?_
              refine f_ine (tgt := 75) hZ dX7_ash_61 rfl (by omega) (by omega) (fun h61 => ?_) (fun h61 => ?_)
              · refine f_iload_n hZ dX7_ash_75 rfl ?_
                refine f_iconst hZ dX7_ash_76 ?_
                refine f_ine (tgt := 92) hZ dX7_ash_77 rfl (by omega) (by omega) (fun h77 => ?_) (fun h77 => ?_)
                · refine f_iload hZ dX7_ash_92 rfl ?_
                  refine f_ge (tgt := 101) hZ dX7_ash_94 rfl (by omega) (fun h94 => ?_) (fun h94 => ?_)
                  · refine f_iload hZ dX7_ash_101 rfl ?_
                    exact f_retI hZ hR dX7_ash_103 rfl (by omega) (by refine ⟨rfl, ?_⟩; unfold ashZ ashB; rw [hkk]; (repeat' split) <;> omega)
                  · refine f_iconst hZ dX7_ash_97 ?_
                    refine f_goto (tgt := 103) hZ dX7_ash_98 rfl ?_
                    exact f_retI hZ hR dX7_ash_103 rfl (by omega) (by refine ⟨rfl, ?_⟩; unfold ashZ ashB; rw [hkk]; (repeat' split) <;> omega)
                · exfalso; omega
              · exfalso; omega
          · exfalso; omega

