def hz (r : Int) (p : Prop) : Prop := bz r p
theorem hz_t {r : Int} {p : Prop} (h : hz r p) (hr : r ≠ 0) : p := bz_t h hr
theorem hz_f {r : Int} {p : Prop} (h : hz r p) (hr : r = 0) : ¬ p := bz_f h hr
def tlH (M : fM) (v : Int) : Prop := (0 ≤ v ∧ wcl (M 20) (M 37 4) (M 37 5) = (257, v)) ∨ (v = -1 ∧ ¬ wq0 (M 20) (M 37 4) (M 37 5) ∧ ¬ wq1 (M 20) (M 37 4) (M 37 5) ∧ ¬ wq2 (M 20) (M 37 4) (M 37 5) ∧ ¬ wq3 (M 20) (M 37 4) (M 37 5) ∧ ¬ wq4 (M 20) (M 37 4) (M 37 5) ∧ ¬ wq5 (M 20) (M 37 4) (M 37 5))
def tcH (M : fM) (v c : Int) : Prop := (c ≠ 259 ∧ wcl (M 20) (M 37 4) (M 37 5) = (c, v)) ∨ (c = 259 ∧ v = -1 ∧ wcl (M 20) (M 37 4) (M 37 5) = (259, -1))
def twP (M K : fM) : Prop := rFld M K ∧ K 37 4 = M 37 4 ∧ K 37 5 = M 37 5 ∧ ((wcl (M 20) (M 37 4) (M 37 5)).1 = 259 → K 37 8 = M 37 4 ∧ K 37 6 = 259) ∧ ((wcl (M 20) (M 37 4) (M 37 5)).1 ≠ 259 → K 37 8 = -1 ∧ K 37 6 = (wcl (M 20) (M 37 4) (M 37 5)).1 ∧ K 37 7 = (wcl (M 20) (M 37 4) (M 37 5)).2)
theorem twP_ok {M : fM} {c v : Int} (h8 : M 37 8 = -1) (hw : wcl (M 20) (M 37 4) (M 37 5) = (c, v)) (hc : c ≠ 259) : twP M (up (up M 37 7 v) 37 6 c) := by
  unfold twP; rw [hw]
  exact ⟨⟨fun c hc => by rw [up_ne hc, up_ne hc], rfl, rfl, rfl⟩, rfl, rfl, fun q => absurd q hc, fun _ => ⟨h8, rfl, rfl⟩⟩
theorem twP_no {M : fM} {v : Int} (h8 : M 37 8 = -1) (hw : wcl (M 20) (M 37 4) (M 37 5) = (259, -1)) : twP M (failM (up (up M 37 7 v) 37 6 259)) := by
  have := failM_f (M := up (up M 37 7 v) 37 6 259) h8
  unfold twP; rw [hw]
  obtain ⟨⟨a1, a2, a3, a4⟩, b, c, e, f⟩ := this
  exact ⟨⟨fun c hc => by rw [a1 c hc, up_ne hc, up_ne hc], a2, a3, a4⟩, b, c, fun _ => ⟨e, f⟩, fun q => absurd rfl q⟩
set_option maxRecDepth 20000 in
set_option maxHeartbeats 4000000 in
theorem t_X2_takeWord {X : fX} {M : fM} {d : Nat} (h8 : M 37 8 = -1) (ha : 0 ≤ M 37 4 ∧ M 37 4 ≤ M 37 5 ∧ M 37 5 ≤ 160) : fC X (d + 5) mX2_takeWord [.ref (xa X 37)] M (QV fun K => twP M K) := by
  refine fC.of (L := [_]) (by decide +kernel) rfl (Nat.le_of_ble_eq_true rfl) (fun Z hZ hR => ?_)
  have tail : ∀ v : Int, tlH M v → fG X mX2_takeWord Z 80 [.ref (xa X 37)] [.int (iv v), .ref (xa X 37)] M := by
    intro v hv
    have hvr : -1 ≤ v ∧ v ≤ 5 := by
      unfold tlH at hv
      rcases hv with z | z
      · have := wcl_rg (B := M 20) (a := M 37 4) (x := M 37 5)
        rw [z.2] at this
        have h2 : (((257 : Int), v).1 = 257 ∧ 0 ≤ v ∧ v ≤ 5) ∨ (259 ≤ (257 : Int) ∧ (257 : Int) ≤ 265 ∧ v = -1) := this
        omega
      · have z1 := z.1; clear z; omega
    have tail2 : ∀ c : Int, tcH M v c → fG X mX2_takeWord Z 191 [.ref (xa X 37)] [.int (iv c), .ref (xa X 37)] (up M 37 7 v) := by
      intro c hc
      have hcr : 0 ≤ c ∧ c ≤ 265 := by
        have := wcl_rg (B := M 20) (a := M 37 4) (x := M 37 5)
        unfold tcH at hc
        rcases hc with z | z
        · rw [z.2] at this
          clear z
          have h2 : (c = 257 ∧ 0 ≤ v ∧ v ≤ 5) ∨ (259 ≤ c ∧ c ≤ 265 ∧ v = -1) := this
          omega
        · omega
      refine pX2_24 hZ dX2_takeWord_191 (by omega) ?_
      refine f_aload_n hZ dX2_takeWord_194 rfl ?_
      refine gX2_24 hZ dX2_takeWord_195 (fun r195 => ?_)
      try simp only [up_app, Nat.reduceEqDiff, Int.reduceEq, and_true, true_and, and_self, and_false, false_and, if_true, if_false, reduceIte] at r195 ⊢
      refine f_sipush hZ dX2_takeWord_198 ?_
      refine f_ine (tgt := 208) hZ dX2_takeWord_201 rfl (by omega) (by omega) (fun h201 => ?_) (fun h201 => ?_)
      · exact f_retV hZ hR dX2_takeWord_208 rfl (by first | exact twP_no h8 z | (unfold tcH at hc; rcases hc with z | z; exact twP_ok h8 z.2 z.1; exfalso; omega))
      · refine f_aload_n hZ dX2_takeWord_204 rfl ?_
        refine vX2_56 hZ dX2_takeWord_205 (t_X2_fail) (fun M205 h205 => ?_)
        subst h205
        unfold tcH at hc
        rcases hc with z | z
        · exfalso; omega
        obtain ⟨rfl, -, z⟩ := z
        exact f_retV hZ hR dX2_takeWord_208 rfl (by first | exact twP_no h8 z | (unfold tcH at hc; rcases hc with z | z; exact twP_ok h8 z.2 z.1; exfalso; omega))
    have ha2 : 0 ≤ (up M 37 7 v) 37 4 ∧ (up M 37 7 v) 37 4 ≤ (up M 37 7 v) 37 5 ∧ (up M 37 7 v) 37 5 ≤ 160 := ha
    refine pX2_27 hZ dX2_takeWord_80 (by omega) ?_
    refine f_aload_n hZ dX2_takeWord_83 rfl ?_
    refine f_aload_n hZ dX2_takeWord_84 rfl ?_
    refine gX2_27 hZ dX2_takeWord_85 (fun r85 => ?_)
    try simp only [up_app, Nat.reduceEqDiff, Int.reduceEq, and_true, true_and, and_self, and_false, false_and, if_true, if_false, reduceIte] at r85 ⊢
    refine f_iconst hZ dX2_takeWord_88 ?_
    refine f_ieq (tgt := 98) hZ dX2_takeWord_89 rfl (by omega) (by omega) (fun h89 => ?_) (fun h89 => ?_)
    · refine f_aload_n hZ dX2_takeWord_98 rfl ?_
      refine f_ldcS hZ dX2_takeWord_99 (k := 6) (by omega) rfl rfl ?_
      refine vX2_103 hZ dX2_takeWord_101 (t_X2_isWord (i := 6) (by omega) ha2) (fun a6 M6 r6 q6 => ?_)
      obtain ⟨e6, q6⟩ := q6
      subst e6
      rw [wcmp_6, up_ne (show (20 : Nat) ≠ 37 by decide)] at q6
      replace q6 : hz a6 _ := q6
      refine f_eq (tgt := 113) hZ dX2_takeWord_104 rfl (by omega) (fun h104 => ?_) (fun h104 => ?_)
      · refine f_aload_n hZ dX2_takeWord_113 rfl ?_
        refine f_ldcS hZ dX2_takeWord_114 (k := 7) (by omega) rfl rfl ?_
        refine vX2_103 hZ dX2_takeWord_116 (t_X2_isWord (i := 7) (by omega) ha2) (fun a7 M7 r7 q7 => ?_)
        obtain ⟨e7, q7⟩ := q7
        subst e7
        rw [wcmp_7, up_ne (show (20 : Nat) ≠ 37 by decide)] at q7
        replace q7 : hz a7 _ := q7
        refine f_eq (tgt := 128) hZ dX2_takeWord_119 rfl (by omega) (fun h119 => ?_) (fun h119 => ?_)
        · refine f_aload_n hZ dX2_takeWord_128 rfl ?_
          refine f_ldcS hZ dX2_takeWord_129 (k := 8) (by omega) rfl rfl ?_
          refine vX2_103 hZ dX2_takeWord_131 (t_X2_isWord (i := 8) (by omega) ha2) (fun a8 M8 r8 q8 => ?_)
          obtain ⟨e8, q8⟩ := q8
          subst e8
          rw [wcmp_8, up_ne (show (20 : Nat) ≠ 37 by decide)] at q8
          replace q8 : hz a8 _ := q8
          refine f_eq (tgt := 143) hZ dX2_takeWord_134 rfl (by omega) (fun h134 => ?_) (fun h134 => ?_)
          · refine f_aload_n hZ dX2_takeWord_143 rfl ?_
            refine f_ldcS hZ dX2_takeWord_144 (k := 9) (by omega) rfl rfl ?_
            refine vX2_103 hZ dX2_takeWord_146 (t_X2_isWord (i := 9) (by omega) ha2) (fun a9 M9 r9 q9 => ?_)
            obtain ⟨e9, q9⟩ := q9
            subst e9
            rw [wcmp_9, up_ne (show (20 : Nat) ≠ 37 by decide)] at q9
            replace q9 : hz a9 _ := q9
            refine f_eq (tgt := 158) hZ dX2_takeWord_149 rfl (by omega) (fun h149 => ?_) (fun h149 => ?_)
            · refine f_aload_n hZ dX2_takeWord_158 rfl ?_
              refine f_ldcS hZ dX2_takeWord_159 (k := 10) (by omega) rfl rfl ?_
              refine vX2_103 hZ dX2_takeWord_161 (t_X2_isWord (i := 10) (by omega) ha2) (fun a10 M10 r10 q10 => ?_)
              obtain ⟨e10, q10⟩ := q10
              subst e10
              rw [wcmp_10, up_ne (show (20 : Nat) ≠ 37 by decide)] at q10
              replace q10 : hz a10 _ := q10
              refine f_eq (tgt := 173) hZ dX2_takeWord_164 rfl (by omega) (fun h164 => ?_) (fun h164 => ?_)
              · refine f_aload_n hZ dX2_takeWord_173 rfl ?_
                refine f_ldcS hZ dX2_takeWord_174 (k := 11) (by omega) rfl rfl ?_
                refine vX2_103 hZ dX2_takeWord_176 (t_X2_isWord (i := 11) (by omega) ha2) (fun a11 M11 r11 q11 => ?_)
                obtain ⟨e11, q11⟩ := q11
                subst e11
                rw [wcmp_11, up_ne (show (20 : Nat) ≠ 37 by decide)] at q11
                replace q11 : hz a11 _ := q11
                refine f_eq (tgt := 188) hZ dX2_takeWord_179 rfl (by omega) (fun h179 => ?_) (fun h179 => ?_)
                · refine f_sipush hZ dX2_takeWord_188 ?_
                  unfold tlH at hv
                  rcases hv with z | z
                  · exfalso; omega
                  · obtain ⟨rfl, n0, n1, n2, n3, n4, n5⟩ := z
                    exact tail2 259 (Or.inr ⟨rfl, rfl, wclF_no n0 n1 n2 n3 n4 n5 (hz_f q6 (by omega)) (hz_f q7 (by omega)) (hz_f q8 (by omega)) (hz_f q9 (by omega)) (hz_f q10 (by omega)) (hz_f q11 (by omega))⟩)
                · refine f_sipush hZ dX2_takeWord_182 ?_
                  refine f_goto (tgt := 191) hZ dX2_takeWord_185 rfl ?_
                  obtain rfl : v = -1 := (by omega)
                  exact tail2 265 (Or.inl ⟨by decide, wclF_11 (hz_t q11 (by omega))⟩)
              · refine f_sipush hZ dX2_takeWord_167 ?_
                refine f_goto (tgt := 191) hZ dX2_takeWord_170 rfl ?_
                obtain rfl : v = -1 := (by omega)
                exact tail2 264 (Or.inl ⟨by decide, wclF_10 (hz_t q10 (by omega))⟩)
            · refine f_sipush hZ dX2_takeWord_152 ?_
              refine f_goto (tgt := 191) hZ dX2_takeWord_155 rfl ?_
              obtain rfl : v = -1 := (by omega)
              exact tail2 263 (Or.inl ⟨by decide, wclF_9 (hz_t q9 (by omega))⟩)
          · refine f_sipush hZ dX2_takeWord_137 ?_
            refine f_goto (tgt := 191) hZ dX2_takeWord_140 rfl ?_
            obtain rfl : v = -1 := (by omega)
            exact tail2 262 (Or.inl ⟨by decide, wclF_8 (hz_t q8 (by omega))⟩)
        · refine f_sipush hZ dX2_takeWord_122 ?_
          refine f_goto (tgt := 191) hZ dX2_takeWord_125 rfl ?_
          obtain rfl : v = -1 := (by omega)
          exact tail2 261 (Or.inl ⟨by decide, wclF_7 (hz_t q7 (by omega))⟩)
      · refine f_sipush hZ dX2_takeWord_107 ?_
        refine f_goto (tgt := 191) hZ dX2_takeWord_110 rfl ?_
        obtain rfl : v = -1 := (by omega)
        exact tail2 260 (Or.inl ⟨by decide, wclF_6 (hz_t q6 (by omega))⟩)
    · refine f_sipush hZ dX2_takeWord_92 ?_
      refine f_goto (tgt := 191) hZ dX2_takeWord_95 rfl ?_
      exact tail2 257 (Or.inl ⟨by decide, by unfold tlH at hv; rcases hv with z | z; exact z.2; exfalso; have z1 := z.1; clear z; omega⟩)
  refine f_aload_n hZ dX2_takeWord_0 rfl ?_
  refine f_aload_n hZ dX2_takeWord_1 rfl ?_
  refine f_ldcS hZ dX2_takeWord_2 (k := 0) (by omega) rfl rfl ?_
  refine vX2_103 hZ dX2_takeWord_4 (t_X2_isWord (i := 0) (by omega) ha) (fun a0 M0 r0 q0 => ?_)
  obtain ⟨e0, q0⟩ := q0
  subst e0
  rw [wcmp_0] at q0
  replace q0 : hz a0 _ := q0
  refine f_eq (tgt := 14) hZ dX2_takeWord_7 rfl (by omega) (fun h7 => ?_) (fun h7 => ?_)
  · refine f_aload_n hZ dX2_takeWord_14 rfl ?_
    refine f_ldcS hZ dX2_takeWord_15 (k := 1) (by omega) rfl rfl ?_
    refine vX2_103 hZ dX2_takeWord_17 (t_X2_isWord (i := 1) (by omega) ha) (fun a1 M1 r1 q1 => ?_)
    obtain ⟨e1, q1⟩ := q1
    subst e1
    rw [wcmp_1] at q1
    replace q1 : hz a1 _ := q1
    refine f_eq (tgt := 27) hZ dX2_takeWord_20 rfl (by omega) (fun h20 => ?_) (fun h20 => ?_)
    · refine f_aload_n hZ dX2_takeWord_27 rfl ?_
      refine f_ldcS hZ dX2_takeWord_28 (k := 2) (by omega) rfl rfl ?_
      refine vX2_103 hZ dX2_takeWord_30 (t_X2_isWord (i := 2) (by omega) ha) (fun a2 M2 r2 q2 => ?_)
      obtain ⟨e2, q2⟩ := q2
      subst e2
      rw [wcmp_2] at q2
      replace q2 : hz a2 _ := q2
      refine f_eq (tgt := 40) hZ dX2_takeWord_33 rfl (by omega) (fun h33 => ?_) (fun h33 => ?_)
      · refine f_aload_n hZ dX2_takeWord_40 rfl ?_
        refine f_ldcS hZ dX2_takeWord_41 (k := 3) (by omega) rfl rfl ?_
        refine vX2_103 hZ dX2_takeWord_43 (t_X2_isWord (i := 3) (by omega) ha) (fun a3 M3 r3 q3 => ?_)
        obtain ⟨e3, q3⟩ := q3
        subst e3
        rw [wcmp_3] at q3
        replace q3 : hz a3 _ := q3
        refine f_eq (tgt := 53) hZ dX2_takeWord_46 rfl (by omega) (fun h46 => ?_) (fun h46 => ?_)
        · refine f_aload_n hZ dX2_takeWord_53 rfl ?_
          refine f_ldcS hZ dX2_takeWord_54 (k := 4) (by omega) rfl rfl ?_
          refine vX2_103 hZ dX2_takeWord_56 (t_X2_isWord (i := 4) (by omega) ha) (fun a4 M4 r4 q4 => ?_)
          obtain ⟨e4, q4⟩ := q4
          subst e4
          rw [wcmp_4] at q4
          replace q4 : hz a4 _ := q4
          refine f_eq (tgt := 66) hZ dX2_takeWord_59 rfl (by omega) (fun h59 => ?_) (fun h59 => ?_)
          · refine f_aload_n hZ dX2_takeWord_66 rfl ?_
            refine f_ldcS hZ dX2_takeWord_67 (k := 5) (by omega) rfl rfl ?_
            refine vX2_103 hZ dX2_takeWord_69 (t_X2_isWord (i := 5) (by omega) ha) (fun a5 M5 r5 q5 => ?_)
            obtain ⟨e5, q5⟩ := q5
            subst e5
            rw [wcmp_5] at q5
            replace q5 : hz a5 _ := q5
            refine f_eq (tgt := 79) hZ dX2_takeWord_72 rfl (by omega) (fun h72 => ?_) (fun h72 => ?_)
            · refine f_iconst hZ dX2_takeWord_79 ?_
              exact tail (-1) (Or.inr ⟨rfl, hz_f q0 (by omega), hz_f q1 (by omega), hz_f q2 (by omega), hz_f q3 (by omega), hz_f q4 (by omega), hz_f q5 (by omega)⟩)
            · refine f_iconst hZ dX2_takeWord_75 ?_
              refine f_goto (tgt := 80) hZ dX2_takeWord_76 rfl ?_
              exact tail 5 (Or.inl ⟨by decide, wclF_5 (hz_t q5 (by omega))⟩)
          · refine f_iconst hZ dX2_takeWord_62 ?_
            refine f_goto (tgt := 80) hZ dX2_takeWord_63 rfl ?_
            exact tail 4 (Or.inl ⟨by decide, wclF_4 (hz_t q4 (by omega))⟩)
        · refine f_iconst hZ dX2_takeWord_49 ?_
          refine f_goto (tgt := 80) hZ dX2_takeWord_50 rfl ?_
          exact tail 3 (Or.inl ⟨by decide, wclF_3 (hz_t q3 (by omega))⟩)
      · refine f_iconst hZ dX2_takeWord_36 ?_
        refine f_goto (tgt := 80) hZ dX2_takeWord_37 rfl ?_
        exact tail 2 (Or.inl ⟨by decide, wclF_2 (hz_t q2 (by omega))⟩)
    · refine f_iconst hZ dX2_takeWord_23 ?_
      refine f_goto (tgt := 80) hZ dX2_takeWord_24 rfl ?_
      exact tail 1 (Or.inl ⟨by decide, wclF_1 (hz_t q1 (by omega))⟩)
  · refine f_iconst hZ dX2_takeWord_10 ?_
    refine f_goto (tgt := 80) hZ dX2_takeWord_11 rfl ?_
    exact tail 0 (Or.inl ⟨by decide, wclF_0 (hz_t q0 (by omega))⟩)

