/-! iteration -/
def itN (f : Int → Int → Int) (a : Int) : Nat → Int
  | 0 => a
  | k + 1 => f k (itN f a k)
def itZ (f : Int → Int → Int) (a w : Int) : Int := itN f a w.toNat
theorem itZ_0 (f : Int → Int → Int) (a : Int) : itZ f a 0 = a := rfl
theorem itZ_succ (f : Int → Int → Int) (a : Int) {w : Int} (h : 0 ≤ w) : itZ f a (w + 1) = f w (itZ f a w) := by
  unfold itZ
  rw [show (w + 1).toNat = w.toNat + 1 by omega]
  show f (w.toNat : Int) _ = _
  rw [Int.toNat_of_nonneg h]
theorem itZ_inv {f : Int → Int → Int} {a : Int} (P : Int → Int → Prop) (h0 : P 0 a) {n : Int} (hs : ∀ k x, 0 ≤ k → k < n → P k x → P (k + 1) (f k x)) : ∀ w, 0 ≤ w → w ≤ n → P w (itZ f a w) := by
  have : ∀ m : Nat, (m : Int) ≤ n → P m (itN f a m) := by
    intro m
    induction m with
    | zero => intro _; exact h0
    | succ m ih =>
      intro hm
      have := hs m _ (by omega) (by omega) (ih (by omega))
      rw [show ((m + 1 : Nat) : Int) = (m : Int) + 1 by omega]
      exact this
  intro w h1 h2
  have h := this w.toNat (by omega)
  rw [Int.toNat_of_nonneg h1] at h
  exact h
theorem itZ_congr {f g : Int → Int → Int} {a : Int} {n : Int} (h : ∀ k x, 0 ≤ k → k < n → f k x = g k x) : itZ f a n = itZ g a n := by
  unfold itZ
  have : ∀ m : Nat, (m : Int) ≤ n.toNat → itN f a m = itN g a m := by
    intro m
    induction m with
    | zero => intro _; rfl
    | succ m ih =>
      intro hm
      show f m (itN f a m) = g m (itN g a m)
      rw [ih (by omega), h m _ (by omega) (by omega)]
  exact this _ (by omega)
theorem lastZ_rg {P F : Int} (hP : 0 ≤ P) (hF : 1 ≤ F) : 0 ≤ lastZ P F ∧ lastZ P F ≤ P := by
  unfold lastZ
  rw [Int.tdiv_eq_ediv_of_nonneg (by omega)]
  refine ⟨Int.ediv_nonneg (by omega) (by omega), ?_⟩
  have h1 : (P + F - 1) / F < P + 1 := by
    apply Int.ediv_lt_of_lt_mul (by omega)
    have : P * 1 ≤ P * F := Int.mul_le_mul_of_nonneg_left hF hP
    rw [Int.add_mul]
    omega
  omega
theorem tmodp {a b : Int} (ha : 0 ≤ a) (hb : 0 < b) : 0 ≤ a.tmod b ∧ a.tmod b < b := by
  rw [Int.tmod_eq_emod_of_nonneg ha]
  exact ⟨Int.emod_nonneg _ (by omega), Int.emod_lt_of_pos _ hb⟩
theorem ushr11 (a : Int) : 0 ≤ ushrI a 11 ∧ ushrI a 11 < 2097152 := by
  unfold ushrI
  have h : ∀ u : UInt32, 0 ≤ (u >>> ((iv 11).toUInt32 &&& Int32.toUInt32 31)).toInt32.toInt ∧ (u >>> ((iv 11).toUInt32 &&& Int32.toUInt32 31)).toInt32.toInt < 2097152 := by
    intro u
    have e : ((iv 11).toUInt32 &&& Int32.toUInt32 31) = (11 : UInt32) := by decide
    rw [e]
    have h1 : (u >>> (11 : UInt32)).toNat = u.toNat >>> 11 := by
      rw [UInt32.toNat_shiftRight]; rfl
    have h2 : u.toNat < 2 ^ 32 := u.toNat_lt
    have h3 : (u >>> (11 : UInt32)).toNat < 2097152 := by rw [h1, Nat.shiftRight_eq_div_pow]; omega
    have h4 : (u >>> (11 : UInt32)).toInt32.toInt = ((u >>> (11 : UInt32)).toNat : Int) := by
      generalize u >>> (11 : UInt32) = v at h3 ⊢
      rw [← Int32.toInt_toBitVec, UInt32.toBitVec_toInt32, BitVec.toInt_eq_toNat_of_lt]
      · rfl
      · show 2 * v.toNat < 2 ^ 32
        omega
    rw [h4]
    omega
  exact h _
def whichF (K N P B : Int → Int) (ash : Int) : Int → Int → Int := fun k acc => if ashZ (K k) (N k) (min 999 (B k + P k)) = ash then orI acc (shlI 1 k) else acc
def whichZ (K N P B : Int → Int) (n ash : Int) : Int := itZ (whichF K N P B ash) 0 n
theorem whichZ_rg (K N P B : Int → Int) (ash : Int) {w : Int} (h : 0 ≤ w) : rg (itZ (whichF K N P B ash) 0 w) :=
  itZ_inv (fun _ x => rg x) rg_0 (fun k x _ _ hx => by unfold whichF; split; exact rg_of _; exact hx) w h (Int.le_refl w)
def zZ (s w : Int) : Int := itZ (fun _ z => z * 1103515245 + 12345) s w
theorem zZ_succ (s : Int) {w : Int} (h : 0 ≤ w) : zZ s (w + 1) = zZ s w * 1103515245 + 12345 := itZ_succ _ _ h
def drawE (L : Int → Int) (s k : Int) : Int := if L k = 0 then (ushrI (zZ s (k + 1)) 11).tmod 3 else L k
def drawT (K N P L : Int → Int) (dmp s k : Int) : Int := if drawE L s k = 0 then 0 else lastZ (P k) (fastZ (K k) (N k) (drawE L s k) dmp)
def drawF (K N P L : Int → Int) (dmp s : Int) : Int → Int → Int := fun k acc => max acc (drawT K N P L dmp s k)
def drawZ (K N P L : Int → Int) (n dmp s : Int) : Int := itZ (drawF K N P L dmp s) 0 n
theorem drawE_rg {L : Int → Int} {s k : Int} (h : 0 ≤ L k ∧ L k ≤ 2) : 0 ≤ drawE L s k ∧ drawE L s k ≤ 2 := by
  have h1 := ushr11 (zZ s (k + 1))
  have h2 := tmodp (a := ushrI (zZ s (k + 1)) 11) (b := 3) h1.1 (by omega)
  unfold drawE; split <;> omega
theorem drawT_rg {n : Int} {K N P L B : Int → Int} (hA : WfA n K N P L B) {dmp s k : Int} (hd : 0 ≤ dmp ∧ dmp ≤ 9) (h0 : 0 ≤ k) (h1 : k < n) : 0 ≤ drawT K N P L dmp s k ∧ drawT K N P L dmp s k ≤ 99 := by
  have hq := hA k h0 h1
  have he := drawE_rg (L := L) (s := s) hq.2.2.2.1
  unfold drawT
  split
  · omega
  · have hF := fastZ_rg (k := K k) (n := N k) (l := drawE L s k) (d := dmp) he hq.2.1 hd
    have := lastZ_rg (P := P k) (F := fastZ (K k) (N k) (drawE L s k) dmp) (by omega) (by omega)
    omega
theorem drawZ_rg {n : Int} {K N P L B : Int → Int} (hA : WfA n K N P L B) {dmp s : Int} (hd : 0 ≤ dmp ∧ dmp ≤ 9) {w : Int} (h0 : 0 ≤ w) (h1 : w ≤ n) : 0 ≤ itZ (drawF K N P L dmp s) 0 w ∧ itZ (drawF K N P L dmp s) 0 w ≤ 99 :=
  itZ_inv (fun _ x => 0 ≤ x ∧ x ≤ 99) (by omega) (fun k x k0 k1 hx => by have := drawT_rg hA (s := s) hd k0 k1; unfold drawF; omega) w h0 h1
def lowN (s a b : Int) : Nat → Int
  | 0 => s
  | m + 1 => if a.tmod ((m : Int) + 2) = 0 ∧ b.tmod ((m : Int) + 2) = 0 then s.tdiv ((m : Int) + 2) else lowN s a b m
def countZ (n : Int) (P L : Int → Int) (dmp mom tc ts ru q : Int) : Int := if q = 0 then n else if q = 1 then sumZ (litO L) n else if q = 2 then dmp else if q = 3 then mom else if q = 4 then tc else if q = 5 then ts else if q = 6 then ru else if q = 7 then sumZ P n else -2
set_option maxRecDepth 20000 in
set_option maxHeartbeats 4000000 in
theorem t_X6_which {X : fX} {M : fM} {d : Nat} {a : Int} (ha : rg a) (hW : WfK M) : fC X (d + 2) mX6_which [.ref (xa X 0), .int (iv a)] M (QI fun r M' => M' = M ∧ ((¬ (0 ≤ a ∧ a ≤ 9999) ∧ r = -2) ∨ ((0 ≤ a ∧ a ≤ 9999) ∧ r = whichZ (M 2) (M 3) (M 4) (M 6) (M 1 5) a))) := by
  obtain ⟨hn, hdm, hmo, hA⟩ := hW
  replace hA : WfA (M 1 5) (M 2) (M 3) (M 4) (M 5) (M 6) := hA
  refine fC.of (L := [_, _, _, _, _]) (by decide +kernel) rfl (Nat.le_of_ble_eq_true rfl) (fun Z hZ hR => ?_)
  by_cases har : 0 ≤ a ∧ a ≤ 9999
  rotate_left
  · skip
    refine f_iload_n hZ dX6_which_0 rfl ?_
    refine f_iconst hZ dX6_which_1 ?_
    refine f_sipush hZ dX6_which_2 ?_
    refine sX6_56 hZ dX6_which_5 (t_X6_within (by omega) (by omega) (by omega)) (fun a5 M5 r5 h5 => ?_)
    obtain ⟨e5, h5⟩ := h5
    replace e5 := e5.symm
    subst e5
    refine f_ne (tgt := 14) hZ dX6_which_8 rfl (by first | omega | exact rg_of _) (fun h8 => ?_) (fun h8 => ?_)
    · exfalso; omega
    · refine f_bipush hZ dX6_which_11 ?_
      exact f_retI hZ hR dX6_which_13 rfl (by first | omega | exact rg_of _) (by exact ⟨rfl, Or.inl ⟨by omega, rfl⟩⟩)
  have loop : ∀ (m : Nat) (w : Int) , 0 ≤ w → w + m = M 1 5 →  fG X mX6_which Z 18 [.ref (xa X 0), .int (iv a), .int (iv (itZ (whichF (M 2) (M 3) (M 4) (M 6) a) 0 w)), .int (iv w), .null] [] (M) := by
    intro m
    induction m with
    | zero =>
      intro w  h0 hw 
      have hOw := whichZ_rg (M 2) (M 3) (M 4) (M 6) a h0
      refine f_iload_n hZ dX6_which_18 rfl ?_
      refine f_aload_n hZ dX6_which_19 rfl ?_
      refine gX6_10 hZ dX6_which_20 ?_
      refine gX6_60_1 hZ dX6_which_23 (fun r23 => ?_)
      refine f_ige (tgt := 82) hZ dX6_which_26 rfl (by first | omega | exact rg_of _) (by first | omega | exact rg_of _) (fun h26 => ?_) (fun h26 => ?_)
      · refine f_iload_n hZ dX6_which_82 rfl ?_
        exact f_retI hZ hR dX6_which_83 rfl (by first | omega | exact rg_of _) (by have hwe : w = M 1 5 := (by omega); subst hwe; exact ⟨rfl, Or.inr ⟨har, rfl⟩⟩)
      · exfalso; omega
    | succ m ih =>
      intro w  h0 hw 
      have hOw := whichZ_rg (M 2) (M 3) (M 4) (M 6) a h0
      refine f_iload_n hZ dX6_which_18 rfl ?_
      refine f_aload_n hZ dX6_which_19 rfl ?_
      refine gX6_10 hZ dX6_which_20 ?_
      refine gX6_60_1 hZ dX6_which_23 (fun r23 => ?_)
      refine f_ige (tgt := 82) hZ dX6_which_26 rfl (by first | omega | exact rg_of _) (by first | omega | exact rg_of _) (fun h26 => ?_) (fun h26 => ?_)
      · exfalso; omega
      · have hq := hA w (by omega) (by omega)
        refine f_sipush hZ dX6_which_29 ?_
        refine f_aload_n hZ dX6_which_32 rfl ?_
        refine gX6_10 hZ dX6_which_33 ?_
        refine gX6_100_1 hZ dX6_which_36 ?_
        refine f_iload_n hZ dX6_which_39 rfl ?_
        refine f_iaload hZ dX6_which_40 (by first | rfl | exact hC.t1 | exact hC.t2 | exact hC.t3 | exact hC.t4 | exact hC.t5) (by first | rfl | exact hC.l1 | exact hC.l2 | exact hC.l3 | exact hC.l4 | exact hC.l5) (by first | omega | exact rg_of _) (by first | omega | exact rg_of _) (fun r40 => ?_)
        refine f_aload_n hZ dX6_which_41 rfl ?_
        refine gX6_10 hZ dX6_which_42 ?_
        refine gX6_79_1 hZ dX6_which_45 ?_
        refine f_iload_n hZ dX6_which_48 rfl ?_
        refine f_iaload hZ dX6_which_49 (by first | rfl | exact hC.t1 | exact hC.t2 | exact hC.t3 | exact hC.t4 | exact hC.t5) (by first | rfl | exact hC.l1 | exact hC.l2 | exact hC.l3 | exact hC.l4 | exact hC.l5) (by first | omega | exact rg_of _) (by first | omega | exact rg_of _) (fun r49 => ?_)
        refine f_iadd hZ dX6_which_50 ?_
        refine f_min hZ dX6_which_51 wk_X6_175 (by first | omega | exact rg_of _) (by first | omega | exact rg_of _) (Nat.le_of_ble_eq_true rfl) ?_
        refine f_istore (L' := [_, _, _, _, _]) hZ dX6_which_54 rfl rfl ?_
        refine f_aload_n hZ dX6_which_56 rfl ?_
        refine gX6_10 hZ dX6_which_57 ?_
        refine f_iload_n hZ dX6_which_60 rfl ?_
        refine f_iload hZ dX6_which_61 rfl ?_
        refine vX6_112 hZ dX6_which_63 (by first | exact hC | exact isC1 | exact isC7 | exact isC13) (t_X0_ash isC1 (by show 0 ≤ w ∧ w < M 1 5; omega) (by omega) hn hA) (fun a63 M63 r63 h63 => ?_)
        try simp only [Nat.reduceAdd] at h63
        obtain ⟨e63, h63⟩ := h63
        replace e63 := e63.symm
        subst e63
        subst h63
        refine f_iload_n hZ dX6_which_66 rfl ?_
        refine f_ine (tgt := 76) hZ dX6_which_67 rfl (by first | omega | exact rg_of _) (by first | omega | exact rg_of _) (fun h67 => ?_) (fun h67 => ?_)
        · refine f_iinc (L' := [_, _, _, _, _]) hZ dX6_which_76 rfl rfl ?_
          refine f_goto (tgt := 18) hZ dX6_which_79 rfl ?_
          refine f_forget (L' := [_, _, _, _, .null]) ⟨Or.inl rfl, Or.inl rfl, Or.inl rfl, Or.inl rfl, Or.inr rfl, trivial⟩ ?_
          have hh := ih (w + 1) (by omega) (by omega)
          rw [itZ_succ _ _ (by omega)] at hh
          have hm : ashZ (M 2 w) (M 3 w) (min 999 (M 6 w + M 4 w)) = a ∨ ¬ ashZ (M 2 w) (M 3 w) (min 999 (M 6 w + M 4 w)) = a := by omega
          first | (rw [show whichF (M 2) (M 3) (M 4) (M 6) a w (itZ (whichF (M 2) (M 3) (M 4) (M 6) a) 0 w) = orI (itZ (whichF (M 2) (M 3) (M 4) (M 6) a) 0 w) (shlI 1 w) from if_pos (by assumption)] at hh; exact hh) | (rw [show whichF (M 2) (M 3) (M 4) (M 6) a w (itZ (whichF (M 2) (M 3) (M 4) (M 6) a) 0 w) = itZ (whichF (M 2) (M 3) (M 4) (M 6) a) 0 w from if_neg (by assumption)] at hh; exact hh)
        · refine f_iload_n hZ dX6_which_70 rfl ?_
          refine f_iconst hZ dX6_which_71 ?_
          refine f_iload_n hZ dX6_which_72 rfl ?_
          refine f_ishl hZ dX6_which_73 ?_
          refine f_ior hZ dX6_which_74 ?_
          refine f_istore_n (L' := [_, _, _, _, _]) hZ dX6_which_75 rfl rfl ?_
          refine f_iinc (L' := [_, _, _, _, _]) hZ dX6_which_76 rfl rfl ?_
          refine f_goto (tgt := 18) hZ dX6_which_79 rfl ?_
          refine f_forget (L' := [_, _, _, _, .null]) ⟨Or.inl rfl, Or.inl rfl, Or.inl rfl, Or.inl rfl, Or.inr rfl, trivial⟩ ?_
          have hh := ih (w + 1) (by omega) (by omega)
          rw [itZ_succ _ _ (by omega)] at hh
          have hm : ashZ (M 2 w) (M 3 w) (min 999 (M 6 w + M 4 w)) = a ∨ ¬ ashZ (M 2 w) (M 3 w) (min 999 (M 6 w + M 4 w)) = a := by omega
          first | (rw [show whichF (M 2) (M 3) (M 4) (M 6) a w (itZ (whichF (M 2) (M 3) (M 4) (M 6) a) 0 w) = orI (itZ (whichF (M 2) (M 3) (M 4) (M 6) a) 0 w) (shlI 1 w) from if_pos (by assumption)] at hh; exact hh) | (rw [show whichF (M 2) (M 3) (M 4) (M 6) a w (itZ (whichF (M 2) (M 3) (M 4) (M 6) a) 0 w) = itZ (whichF (M 2) (M 3) (M 4) (M 6) a) 0 w from if_neg (by assumption)] at hh; exact hh)
  refine f_iload_n hZ dX6_which_0 rfl ?_
  refine f_iconst hZ dX6_which_1 ?_
  refine f_sipush hZ dX6_which_2 ?_
  refine sX6_56 hZ dX6_which_5 (t_X6_within (by omega) (by omega) (by omega)) (fun a5 M5 r5 h5 => ?_)
  obtain ⟨e5, h5⟩ := h5
  replace e5 := e5.symm
  subst e5
  refine f_ne (tgt := 14) hZ dX6_which_8 rfl (by first | omega | exact rg_of _) (fun h8 => ?_) (fun h8 => ?_)
  · have har : 0 ≤ a ∧ a ≤ 9999 := by omega
    refine f_iconst hZ dX6_which_14 ?_
    refine f_istore_n (L' := [_, _, _, _, _]) hZ dX6_which_15 rfl rfl ?_
    refine f_iconst hZ dX6_which_16 ?_
    refine f_istore_n (L' := [_, _, _, _, _]) hZ dX6_which_17 rfl rfl ?_
    exact loop (M 1 5).toNat 0 (by omega) (by omega)
  · refine f_bipush hZ dX6_which_11 ?_
    exact f_retI hZ hR dX6_which_13 rfl (by first | omega | exact rg_of _) (by exact ⟨rfl, Or.inl ⟨by omega, rfl⟩⟩)

set_option maxRecDepth 20000 in
set_option maxHeartbeats 4000000 in
theorem t_X6_drawn {X : fX} {M : fM} {d : Nat} {s : Int} (hW : WfK M) : fC X (d + 3) mX6_drawn [.ref (xa X 0), .int (iv s)] M (QI fun r M' => M' = M ∧ r = drawZ (M 2) (M 3) (M 4) (M 5) (M 1 5) (M 1 6) s) := by
  obtain ⟨hn, hdm, hmo, hA⟩ := hW
  replace hA : WfA (M 1 5) (M 2) (M 3) (M 4) (M 5) (M 6) := hA
  refine fC.of (L := [_, _, _, _, _, _]) (by decide +kernel) rfl (Nat.le_of_ble_eq_true rfl) (fun Z hZ hR => ?_)
  have loop : ∀ (m : Nat) (w : Int) , 0 ≤ w → w + m = M 1 5 →  fG X mX6_drawn Z 7 [.ref (xa X 0), .int (iv s), .int (iv (zZ s w)), .int (iv (itZ (drawF (M 2) (M 3) (M 4) (M 5) (M 1 6) s) 0 w)), .int (iv w), .null] [] (M) := by
    intro m
    induction m with
    | zero =>
      intro w  h0 hw 
      have hOw := drawZ_rg hA (s := s) hdm h0 (by omega : w ≤ M 1 5)
      refine f_iload hZ dX6_drawn_7 rfl ?_
      refine f_aload_n hZ dX6_drawn_9 rfl ?_
      refine gX6_10 hZ dX6_drawn_10 ?_
      refine gX6_60_1 hZ dX6_drawn_13 (fun r13 => ?_)
      refine f_ige (tgt := 91) hZ dX6_drawn_16 rfl (by first | omega | exact rg_of _) (by first | omega | exact rg_of _) (fun h16 => ?_) (fun h16 => ?_)
      · refine f_iload_n hZ dX6_drawn_91 rfl ?_
        exact f_retI hZ hR dX6_drawn_92 rfl (by first | omega | exact rg_of _) (by have hwe : w = M 1 5 := (by omega); subst hwe; exact ⟨rfl, rfl⟩)
      · exfalso; omega
    | succ m ih =>
      intro w  h0 hw 
      have hOw := drawZ_rg hA (s := s) hdm h0 (by omega : w ≤ M 1 5)
      refine f_iload hZ dX6_drawn_7 rfl ?_
      refine f_aload_n hZ dX6_drawn_9 rfl ?_
      refine gX6_10 hZ dX6_drawn_10 ?_
      refine gX6_60_1 hZ dX6_drawn_13 (fun r13 => ?_)
      refine f_ige (tgt := 91) hZ dX6_drawn_16 rfl (by first | omega | exact rg_of _) (by first | omega | exact rg_of _) (fun h16 => ?_) (fun h16 => ?_)
      · exfalso; omega
      · have hq := hA w (by omega) (by omega)
        have hE := drawE_rg (L := M 5) (s := s) (k := w) hq.2.2.2.1
        have hus := ushr11 (zZ s w * 1103515245 + 12345)
        refine f_iload_n hZ dX6_drawn_19 rfl ?_
        refine f_ldc (v := (1103515245 : Int32)) hZ (1103515245) dX6_drawn_20 (tb_in 733 (by decide +kernel) (by decide +kernel)) (by decide) ?_
        refine f_imul hZ dX6_drawn_22 ?_
        refine f_sipush hZ dX6_drawn_23 ?_
        refine f_iadd hZ dX6_drawn_26 ?_
        refine f_istore_n (L' := [_, _, _, _, _, _]) hZ dX6_drawn_27 rfl rfl ?_
        refine f_aload_n hZ dX6_drawn_28 rfl ?_
        refine gX6_10 hZ dX6_drawn_29 ?_
        refine gX6_97_1 hZ dX6_drawn_32 ?_
        refine f_iload hZ dX6_drawn_35 rfl ?_
        refine f_iaload hZ dX6_drawn_37 (by first | rfl | exact hC.t1 | exact hC.t2 | exact hC.t3 | exact hC.t4 | exact hC.t5) (by first | rfl | exact hC.l1 | exact hC.l2 | exact hC.l3 | exact hC.l4 | exact hC.l5) (by first | omega | exact rg_of _) (by first | omega | exact rg_of _) (fun r37 => ?_)
        refine f_ne (tgt := 50) hZ dX6_drawn_38 rfl (by first | omega | exact rg_of _) (fun h38 => ?_) (fun h38 => ?_)
        · refine f_aload_n hZ dX6_drawn_50 rfl ?_
          refine gX6_10 hZ dX6_drawn_51 ?_
          refine gX6_97_1 hZ dX6_drawn_54 ?_
          refine f_iload hZ dX6_drawn_57 rfl ?_
          refine f_iaload hZ dX6_drawn_59 (by first | rfl | exact hC.t1 | exact hC.t2 | exact hC.t3 | exact hC.t4 | exact hC.t5) (by first | rfl | exact hC.l1 | exact hC.l2 | exact hC.l3 | exact hC.l4 | exact hC.l5) (by first | omega | exact rg_of _) (by first | omega | exact rg_of _) (fun r59 => ?_)
          refine f_nm (fun e5 ee5 => ?_)
          refine f_istore (L' := [_, _, _, _, _, _]) hZ dX6_drawn_60 rfl rfl ?_
          have he5 : e5 = drawE (M 5) s w := by rw [ee5]; unfold drawE; rw [zZ_succ s h0]; first | rw [if_pos (by omega)] | rw [if_neg (by omega)]
          refine f_iload_n hZ dX6_drawn_62 rfl ?_
          refine f_aload_n hZ dX6_drawn_63 rfl ?_
          refine gX6_10 hZ dX6_drawn_64 ?_
          refine f_iload hZ dX6_drawn_67 rfl ?_
          refine f_iload hZ dX6_drawn_69 rfl ?_
          refine f_aload_n hZ dX6_drawn_71 rfl ?_
          refine gX6_10 hZ dX6_drawn_72 ?_
          refine gX6_91_1 hZ dX6_drawn_75 (fun r75 => ?_)
          refine vX6_134 hZ dX6_drawn_78 (by first | exact hC | exact isC1 | exact isC7 | exact isC13) (t_X0_lasts isC1 (by show 0 ≤ w ∧ w < M 1 5; omega) (by omega) (by omega) hn hA) (fun a78 M78 r78 h78 => ?_)
          try simp only [Nat.reduceAdd] at h78
          obtain ⟨e78, h78⟩ := h78
          replace e78 := e78.symm
          subst e78
          rw [he5] at h78
          replace h78 : a78 = drawT (M 2) (M 3) (M 4) (M 5) (M 1 6) s w := h78
          have hT := drawT_rg hA (s := s) hdm h0 (by omega : w < M 1 5)
          subst h78
          refine f_max hZ dX6_drawn_81 wk_X6_183 (by first | omega | exact rg_of _) (by first | omega | exact rg_of _) (Nat.le_of_ble_eq_true rfl) ?_
          refine f_istore_n (L' := [_, _, _, _, _, _]) hZ dX6_drawn_84 rfl rfl ?_
          refine f_iinc (L' := [_, _, _, _, _, _]) hZ dX6_drawn_85 rfl rfl ?_
          refine f_goto (tgt := 7) hZ dX6_drawn_88 rfl ?_
          refine f_forget (L' := [_, _, _, _, _, .null]) ⟨Or.inl rfl, Or.inl rfl, Or.inl rfl, Or.inl rfl, Or.inl rfl, Or.inr rfl, trivial⟩ ?_
          have hh := ih (w + 1) (by omega) (by omega)
          rw [itZ_succ _ _ (by omega), zZ_succ s h0] at hh
          exact hh
        · refine f_iload_n hZ dX6_drawn_41 rfl ?_
          refine f_bipush hZ dX6_drawn_42 ?_
          refine f_iushr hZ dX6_drawn_44 ?_
          refine f_iconst hZ dX6_drawn_45 ?_
          refine f_irem hZ dX6_drawn_46 (by first | omega | exact rg_of _) (by first | omega | exact rg_of _) (by first | omega | exact rg_of _) (by first | omega | exact rg_of _) ?_
          refine f_goto (tgt := 60) hZ dX6_drawn_47 rfl ?_
          refine f_nm (fun e5 ee5 => ?_)
          refine f_istore (L' := [_, _, _, _, _, _]) hZ dX6_drawn_60 rfl rfl ?_
          have he5 : e5 = drawE (M 5) s w := by rw [ee5]; unfold drawE; rw [zZ_succ s h0]; first | rw [if_pos (by omega)] | rw [if_neg (by omega)]
          refine f_iload_n hZ dX6_drawn_62 rfl ?_
          refine f_aload_n hZ dX6_drawn_63 rfl ?_
          refine gX6_10 hZ dX6_drawn_64 ?_
          refine f_iload hZ dX6_drawn_67 rfl ?_
          refine f_iload hZ dX6_drawn_69 rfl ?_
          refine f_aload_n hZ dX6_drawn_71 rfl ?_
          refine gX6_10 hZ dX6_drawn_72 ?_
          refine gX6_91_1 hZ dX6_drawn_75 (fun r75 => ?_)
          refine vX6_134 hZ dX6_drawn_78 (by first | exact hC | exact isC1 | exact isC7 | exact isC13) (t_X0_lasts isC1 (by show 0 ≤ w ∧ w < M 1 5; omega) (by omega) (by omega) hn hA) (fun a78 M78 r78 h78 => ?_)
          try simp only [Nat.reduceAdd] at h78
          obtain ⟨e78, h78⟩ := h78
          replace e78 := e78.symm
          subst e78
          rw [he5] at h78
          replace h78 : a78 = drawT (M 2) (M 3) (M 4) (M 5) (M 1 6) s w := h78
          have hT := drawT_rg hA (s := s) hdm h0 (by omega : w < M 1 5)
          subst h78
          refine f_max hZ dX6_drawn_81 wk_X6_183 (by first | omega | exact rg_of _) (by first | omega | exact rg_of _) (Nat.le_of_ble_eq_true rfl) ?_
          refine f_istore_n (L' := [_, _, _, _, _, _]) hZ dX6_drawn_84 rfl rfl ?_
          refine f_iinc (L' := [_, _, _, _, _, _]) hZ dX6_drawn_85 rfl rfl ?_
          refine f_goto (tgt := 7) hZ dX6_drawn_88 rfl ?_
          refine f_forget (L' := [_, _, _, _, _, .null]) ⟨Or.inl rfl, Or.inl rfl, Or.inl rfl, Or.inl rfl, Or.inl rfl, Or.inr rfl, trivial⟩ ?_
          have hh := ih (w + 1) (by omega) (by omega)
          rw [itZ_succ _ _ (by omega), zZ_succ s h0] at hh
          exact hh
  refine f_iload_n hZ dX6_drawn_0 rfl ?_
  refine f_istore_n (L' := [_, _, _, _, _, _]) hZ dX6_drawn_1 rfl rfl ?_
  refine f_iconst hZ dX6_drawn_2 ?_
  refine f_istore_n (L' := [_, _, _, _, _, _]) hZ dX6_drawn_3 rfl rfl ?_
  refine f_iconst hZ dX6_drawn_4 ?_
  refine f_istore (L' := [_, _, _, _, _, _]) hZ dX6_drawn_5 rfl rfl ?_
  exact loop (M 1 5).toNat 0 (by omega) (by omega)

