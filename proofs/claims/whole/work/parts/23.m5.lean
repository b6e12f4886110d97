theorem shl1 {n : Int} (h : 0 ≤ n ∧ n ≤ 4) : 1 ≤ shlI 1 n ∧ shlI 1 n ≤ 16 := by
  rcases (show n = 0 ∨ n = 1 ∨ n = 2 ∨ n = 3 ∨ n = 4 by omega) with rfl | rfl | rfl | rfl | rfl <;> decide
theorem iv_or0 (x : Int32) : x ||| (0 : Int32) = x := by
  apply Int32.toBitVec.inj
  rw [Int32.toBitVec_or]
  show x.toBitVec ||| 0#32 = x.toBitVec
  exact BitVec.or_zero
theorem shlI_0 (w : Int) : shlI 0 w = 0 := by
  unfold shlI
  have h : ∀ k : Int32, ((0 : Int32) <<< k) = 0 := fun k => by
    apply Int32.toBitVec.inj
    rw [Int32.toBitVec_shiftLeft]
    show 0#32 <<< _ = 0#32
    simp
  rw [iv_0, h]; rfl
theorem or_shl0 {x : Int} (hx : rg x) (w : Int) : orI x (shlI 0 w) = x := by
  rw [shlI_0]
  unfold orI
  rw [iv_0, iv_or0, iv_toInt hx]
theorem lastZ_0 {F : Int} (hF : 1 ≤ F) : lastZ 0 F = 0 := by
  have := lastZ_rg (P := 0) (F := F) (by omega) hF
  omega
set_option maxRecDepth 20000 in
set_option maxHeartbeats 4000000 in
theorem t_X7_isSome {X : fX} {M : fM} {d : Nat} {s : Int} (hs : rg s) (hn : 0 ≤ M 59 12 ∧ M 59 12 ≤ 4) (hA : WfA (M 59 12) (M 63) (M 64) (M 65) (M 66) (M 67)) : fC X (d + 1) mX7_isSome [.ref (xa X 59), .int (iv s)] M (QI fun r M' => M' = M ∧ bz r (someP (M 59 12) (M 65) (M 66) s)) := by
  have hsh := shl1 hn
  refine fC.of (L := [_, _, _]) (by decide +kernel) rfl (Nat.le_of_ble_eq_true rfl) (fun Z hZ hR => ?_)
  have loop : ∀ (m : Nat) (w : Int) , 0 ≤ w → w + m = M 59 12 → (0 ≤ s ∧ s < shlI 1 (M 59 12)) → (∀ i, 0 ≤ i → i < w → bitZ s i = 1 → M 65 i ≠ 0 ∧ M 66 i = 0) → fG X mX7_isSome Z 22 [.ref (xa X 59), .int (iv s), .int (iv w)] [] (M) := by
    intro m
    induction m with
    | zero =>
      intro w  h0 hw hs0 hinv
      refine f_iload_n hZ dX7_isSome_22 rfl ?_
      refine f_aload_n hZ dX7_isSome_23 rfl ?_
      refine gX7_110 hZ dX7_isSome_24 (fun r24 => ?_)
      refine f_ige (tgt := 65) hZ dX7_isSome_27 rfl (by first | omega | exact shl_rg _ | exact f_rgA _ _) (by first | omega | exact shl_rg _ | exact f_rgA _ _) (fun h27 => ?_) (fun h27 => ?_)
      · refine f_iconst hZ dX7_isSome_65 ?_
        exact f_retZ hZ hR dX7_isSome_66 rfl (by first | omega | exact shl_rg _ | exact f_rgA _ _) (by refine ⟨rfl, ?_⟩; first | exact Or.inl ⟨rfl, ⟨by omega, by omega⟩, fun i h1 h2 hb => hinv i h1 (by omega) hb⟩ | exact Or.inr ⟨rfl, fun hs => by have := hs.1; omega⟩ | exact Or.inr ⟨rfl, fun hs => by have h9 := hs.2 w (by omega) (by omega) (by assumption); omega⟩)
      · exfalso; omega
    | succ m ih =>
      intro w  h0 hw hs0 hinv
      refine f_iload_n hZ dX7_isSome_22 rfl ?_
      refine f_aload_n hZ dX7_isSome_23 rfl ?_
      refine gX7_110 hZ dX7_isSome_24 (fun r24 => ?_)
      refine f_ige (tgt := 65) hZ dX7_isSome_27 rfl (by first | omega | exact shl_rg _ | exact f_rgA _ _) (by first | omega | exact shl_rg _ | exact f_rgA _ _) (fun h27 => ?_) (fun h27 => ?_)
      · exfalso; omega
      · have hq := hA w (by omega) (by omega)
        refine f_iload_n hZ dX7_isSome_30 rfl ?_
        refine f_iload_n hZ dX7_isSome_31 rfl ?_
        refine f_ishr hZ dX7_isSome_32 ?_
        refine f_iconst hZ dX7_isSome_33 ?_
        refine f_iand hZ dX7_isSome_34 ?_
        refine f_iconst hZ dX7_isSome_35 ?_
        refine f_ine (tgt := 59) hZ dX7_isSome_36 rfl (by first | omega | exact shl_rg _ | exact f_rgA _ _) (by first | omega | exact shl_rg _ | exact f_rgA _ _) (fun h36 => ?_) (fun h36 => ?_)
        · refine f_iinc (L' := [_, _, _]) hZ dX7_isSome_59 rfl rfl ?_
          refine f_goto (tgt := 22) hZ dX7_isSome_62 rfl ?_
          exact ih (w + 1) (by omega) (by omega) hs0 (fun i h1 h2 hb => by
            by_cases hi : i = w
            · subst hi
              first | exact ⟨by omega, by omega⟩ | exact absurd hb (by assumption)
            · exact hinv i h1 (by omega) hb)
        · refine f_aload_n hZ dX7_isSome_39 rfl ?_
          refine gX7_29 hZ dX7_isSome_40 ?_
          refine f_iload_n hZ dX7_isSome_43 rfl ?_
          refine f_iaload hZ dX7_isSome_44 (by first | rfl | exact hC.t1 | exact hC.t2 | exact hC.t3 | exact hC.t4 | exact hC.t5) (by first | rfl | exact hC.l1 | exact hC.l2 | exact hC.l3 | exact hC.l4 | exact hC.l5) (by first | omega | exact shl_rg _ | exact f_rgA _ _) (by first | omega | exact shl_rg _ | exact f_rgA _ _) (fun r44 => ?_)
          refine f_eq (tgt := 57) hZ dX7_isSome_45 rfl (by first | omega | exact shl_rg _ | exact f_rgA _ _) (fun h45 => ?_) (fun h45 => ?_)
          · refine f_iconst hZ dX7_isSome_57 ?_
            exact f_retZ hZ hR dX7_isSome_58 rfl (by first | omega | exact shl_rg _ | exact f_rgA _ _) (by refine ⟨rfl, ?_⟩; first | exact Or.inl ⟨rfl, ⟨by omega, by omega⟩, fun i h1 h2 hb => hinv i h1 (by omega) hb⟩ | exact Or.inr ⟨rfl, fun hs => by have := hs.1; omega⟩ | exact Or.inr ⟨rfl, fun hs => by have h9 := hs.2 w (by omega) (by omega) (by assumption); omega⟩)
          · refine f_aload_n hZ dX7_isSome_48 rfl ?_
            refine gX7_32 hZ dX7_isSome_49 ?_
            refine f_iload_n hZ dX7_isSome_52 rfl ?_
            refine f_iaload hZ dX7_isSome_53 (by first | rfl | exact hC.t1 | exact hC.t2 | exact hC.t3 | exact hC.t4 | exact hC.t5) (by first | rfl | exact hC.l1 | exact hC.l2 | exact hC.l3 | exact hC.l4 | exact hC.l5) (by first | omega | exact shl_rg _ | exact f_rgA _ _) (by first | omega | exact shl_rg _ | exact f_rgA _ _) (fun r53 => ?_)
            refine f_le (tgt := 59) hZ dX7_isSome_54 rfl (by first | omega | exact shl_rg _ | exact f_rgA _ _) (fun h54 => ?_) (fun h54 => ?_)
            · refine f_iinc (L' := [_, _, _]) hZ dX7_isSome_59 rfl rfl ?_
              refine f_goto (tgt := 22) hZ dX7_isSome_62 rfl ?_
              exact ih (w + 1) (by omega) (by omega) hs0 (fun i h1 h2 hb => by
                by_cases hi : i = w
                · subst hi
                  first | exact ⟨by omega, by omega⟩ | exact absurd hb (by assumption)
                · exact hinv i h1 (by omega) hb)
            · refine f_iconst hZ dX7_isSome_57 ?_
              exact f_retZ hZ hR dX7_isSome_58 rfl (by first | omega | exact shl_rg _ | exact f_rgA _ _) (by refine ⟨rfl, ?_⟩; first | exact Or.inl ⟨rfl, ⟨by omega, by omega⟩, fun i h1 h2 hb => hinv i h1 (by omega) hb⟩ | exact Or.inr ⟨rfl, fun hs => by have := hs.1; omega⟩ | exact Or.inr ⟨rfl, fun hs => by have h9 := hs.2 w (by omega) (by omega) (by assumption); omega⟩)
  refine f_iload_n hZ dX7_isSome_0 rfl ?_
  refine f_i2l hZ dX7_isSome_1 (by first | omega | exact shl_rg _ | exact f_rgA _ _) ?_
  refine f_lconst0 hZ dX7_isSome_2 ?_
  refine f_iconst hZ dX7_isSome_3 ?_
  refine f_aload_n hZ dX7_isSome_4 rfl ?_
  refine gX7_110 hZ dX7_isSome_5 (fun r5 => ?_)
  refine f_ishl hZ dX7_isSome_8 ?_
  refine f_iconst hZ dX7_isSome_9 ?_
  refine f_isub hZ dX7_isSome_10 ?_
  refine f_i2l hZ dX7_isSome_11 (by first | omega | exact shl_rg _ | exact f_rgA _ _) ?_
  refine sX7_113 hZ dX7_isSome_12 (t_X7_in (by omega) (by omega) (by omega)) (fun a12 M12 r12 h12 => ?_)
  obtain ⟨e12, h12⟩ := h12
  replace e12 := e12.symm
  subst e12
  refine f_ne (tgt := 20) hZ dX7_isSome_15 rfl (by first | omega | exact shl_rg _ | exact f_rgA _ _) (fun h15 => ?_) (fun h15 => ?_)
  · refine f_iconst hZ dX7_isSome_20 ?_
    refine f_istore_n (L' := [_, _, _]) hZ dX7_isSome_21 rfl rfl ?_
    exact loop (M 59 12).toNat 0 (by omega) (by omega) ⟨by omega, by omega⟩ (fun i h1 h2 => by omega)
  · refine f_iconst hZ dX7_isSome_18 ?_
    exact f_retZ hZ hR dX7_isSome_19 rfl (by first | omega | exact shl_rg _ | exact f_rgA _ _) (by refine ⟨rfl, ?_⟩; first | exact Or.inl ⟨rfl, ⟨by omega, by omega⟩, fun i h1 h2 hb => hinv i h1 (by omega) hb⟩ | exact Or.inr ⟨rfl, fun hs => by have := hs.1; omega⟩ | exact Or.inr ⟨rfl, fun hs => by have h9 := hs.2 w (by omega) (by omega) (by assumption); omega⟩)

set_option maxRecDepth 20000 in
set_option maxHeartbeats 4000000 in
theorem t_X7_cheat {X : fX} {M : fM} {d : Nat} {w : Int} (hw : rg w) (hW : WfM M) : fC X (d + 2) mX7_cheat [.ref (xa X 59), .int (iv w)] M (QI fun r M' => M' = M ∧ ((¬ (0 ≤ w ∧ w < M 59 12 ∧ M 65 w ≠ 0) ∧ r = -2) ∨ ((0 ≤ w ∧ w < M 59 12 ∧ M 65 w ≠ 0) ∧ cheatP (M 65 w) (M 63 w) (M 64 w) r))) := by
  obtain ⟨hn, hdm, hmo, hA⟩ := hW
  refine fC.of (L := [_, _, _, _]) (by decide +kernel) rfl (Nat.le_of_ble_eq_true rfl) (fun Z hZ hR => ?_)
  have loop : ∀ (m : Nat) (e : Int) , 1 ≤ e → e + m = 10 → rg (lastZ (M 65 w) (fastZ (M 63 w) (M 64 w) 1 0)) → (0 ≤ w ∧ w < M 59 12 ∧ M 65 w ≠ 0) → (∀ i, 0 ≤ i → i < e → ¬ lastZ (M 65 w) (fastZ (M 63 w) (M 64 w) 1 0) < lastZ (M 65 w) (fastZ (M 63 w) (M 64 w) 1 i)) → fG X mX7_cheat Z 39 [.ref (xa X 59), .int (iv w), .int (iv (lastZ (M 65 w) (fastZ (M 63 w) (M 64 w) 1 0))), .int (iv e)] [] (M) := by
    intro m
    induction m with
    | zero =>
      intro e  h0 hw hd0 hwn hinv
      refine f_iload_n hZ dX7_cheat_39 rfl ?_
      refine f_bipush hZ dX7_cheat_40 ?_
      refine f_ige (tgt := 73) hZ dX7_cheat_42 rfl (by omega) (by omega) (fun h42 => ?_) (fun h42 => ?_)
      · refine f_iconst hZ dX7_cheat_73 ?_
        exact f_retI hZ hR dX7_cheat_74 rfl (by omega) (by exact ⟨rfl, Or.inr ⟨by omega, Or.inl ⟨rfl, fun i h1 h2 => hinv i h1 (by omega)⟩⟩⟩)
      · exfalso; omega
    | succ m ih =>
      intro e  h0 hw hd0 hwn hinv
      refine f_iload_n hZ dX7_cheat_39 rfl ?_
      refine f_bipush hZ dX7_cheat_40 ?_
      refine f_ige (tgt := 73) hZ dX7_cheat_42 rfl (by omega) (by omega) (fun h42 => ?_) (fun h42 => ?_)
      · exfalso; omega
      · have hq := hA w (by omega) (by omega)
        refine f_aload_n hZ dX7_cheat_45 rfl ?_
        refine gX7_29 hZ dX7_cheat_46 ?_
        refine f_iload_n hZ dX7_cheat_49 rfl ?_
        refine f_iaload hZ dX7_cheat_50 (by first | rfl | exact hC.t1 | exact hC.t2 | exact hC.t3 | exact hC.t4 | exact hC.t5) (by first | rfl | exact hC.l1 | exact hC.l2 | exact hC.l3 | exact hC.l4 | exact hC.l5) (by omega) (by omega) (fun r50 => ?_)
        refine f_aload_n hZ dX7_cheat_51 rfl ?_
        refine f_iload_n hZ dX7_cheat_52 rfl ?_
        refine f_iconst hZ dX7_cheat_53 ?_
        refine f_iload_n hZ dX7_cheat_54 rfl ?_
        refine vX7_145 hZ dX7_cheat_55 (t_X7_fast (by omega) (by omega) (by omega) (by omega) (by omega)) (fun a55 M55 r55 h55 => ?_)
        obtain ⟨e55, h55⟩ := h55
        replace e55 := e55.symm
        subst e55
        subst h55
        have hF55 := fastZ_rg (k := M 63 w) (n := M 64 w) (l := 1) (d := e) (by omega) (by omega) (by omega)
        refine sX7_283 hZ dX7_cheat_58 (t_X7_until (by omega) (by omega)) (fun a58 M58 r58 h58 => ?_)
        obtain ⟨e58, h58⟩ := h58
        replace e58 := e58.symm
        subst e58
        replace h58 : a58 = lastZ (M 65 w) (fastZ (M 63 w) (M 64 w) 1 e) := h58
        subst h58
        refine f_iload_n hZ dX7_cheat_61 rfl ?_
        refine f_ile (tgt := 67) hZ dX7_cheat_62 rfl (by omega) (by omega) (fun h62 => ?_) (fun h62 => ?_)
        · refine f_iinc (L' := [_, _, _, _]) hZ dX7_cheat_67 rfl rfl ?_
          refine f_goto (tgt := 39) hZ dX7_cheat_70 rfl ?_
          exact ih (e + 1) (by omega) (by omega) hd0 hwn (fun i h1 h2 => by
            by_cases hi : i = e
            · subst hi; omega
            · exact hinv i h1 (by omega))
        · refine f_iload_n hZ dX7_cheat_65 rfl ?_
          exact f_retI hZ hR dX7_cheat_66 rfl (by omega) (by exact ⟨rfl, Or.inr ⟨by omega, Or.inr ⟨by omega, by omega, fun i h1 h2 => hinv i h1 h2⟩⟩⟩)
  refine f_aload_n hZ dX7_cheat_0 rfl ?_
  refine f_iload_n hZ dX7_cheat_1 rfl ?_
  refine vX7_123 hZ dX7_cheat_2 (t_X7_isWick (by omega) hn) (fun a2 M2 r2 h2 => ?_)
  obtain ⟨e2, h2⟩ := h2
  replace e2 := e2.symm
  subst e2
  refine f_eq (tgt := 17) hZ dX7_cheat_5 rfl (by omega) (fun h5 => ?_) (fun h5 => ?_)
  · refine f_bipush hZ dX7_cheat_17 ?_
    exact f_retI hZ hR dX7_cheat_19 rfl (by omega) (by exact ⟨rfl, Or.inl ⟨by omega, rfl⟩⟩)
  · have hq := hA w (by omega) (by omega)
    refine f_aload_n hZ dX7_cheat_8 rfl ?_
    refine gX7_29 hZ dX7_cheat_9 ?_
    refine f_iload_n hZ dX7_cheat_12 rfl ?_
    refine f_iaload hZ dX7_cheat_13 (by first | rfl | exact hC.t1 | exact hC.t2 | exact hC.t3 | exact hC.t4 | exact hC.t5) (by first | rfl | exact hC.l1 | exact hC.l2 | exact hC.l3 | exact hC.l4 | exact hC.l5) (by omega) (by omega) (fun r13 => ?_)
    refine f_ne (tgt := 20) hZ dX7_cheat_14 rfl (by omega) (fun h14 => ?_) (fun h14 => ?_)
    · refine f_aload_n hZ dX7_cheat_20 rfl ?_
      refine gX7_29 hZ dX7_cheat_21 ?_
      refine f_iload_n hZ dX7_cheat_24 rfl ?_
      refine f_iaload hZ dX7_cheat_25 (by first | rfl | exact hC.t1 | exact hC.t2 | exact hC.t3 | exact hC.t4 | exact hC.t5) (by first | rfl | exact hC.l1 | exact hC.l2 | exact hC.l3 | exact hC.l4 | exact hC.l5) (by omega) (by omega) (fun r25 => ?_)
      refine f_aload_n hZ dX7_cheat_26 rfl ?_
      refine f_iload_n hZ dX7_cheat_27 rfl ?_
      refine f_iconst hZ dX7_cheat_28 ?_
      refine f_iconst hZ dX7_cheat_29 ?_
      refine vX7_145 hZ dX7_cheat_30 (t_X7_fast (by omega) (by omega) (by omega) (by omega) (by omega)) (fun a30 M30 r30 h30 => ?_)
      obtain ⟨e30, h30⟩ := h30
      replace e30 := e30.symm
      subst e30
      subst h30
      have hF30 := fastZ_rg (k := M 63 w) (n := M 64 w) (l := 1) (d := 0) (by omega) (by omega) (by omega)
      refine sX7_283 hZ dX7_cheat_33 (t_X7_until (by omega) (by omega)) (fun a33 M33 r33 h33 => ?_)
      obtain ⟨e33, h33⟩ := h33
      replace e33 := e33.symm
      subst e33
      replace h33 : a33 = lastZ (M 65 w) (fastZ (M 63 w) (M 64 w) 1 0) := h33
      subst h33
      refine f_istore_n (L' := [_, _, _, _]) hZ dX7_cheat_36 rfl rfl ?_
      refine f_iconst hZ dX7_cheat_37 ?_
      refine f_istore_n (L' := [_, _, _, _]) hZ dX7_cheat_38 rfl rfl ?_
      exact loop 9 1 (by omega) (by omega) (by assumption) (by omega) (fun i h1 h2 => by rw [show i = 0 by omega]; omega)
    · refine f_bipush hZ dX7_cheat_17 ?_
      exact f_retI hZ hR dX7_cheat_19 rfl (by omega) (by exact ⟨rfl, Or.inl ⟨by omega, rfl⟩⟩)

set_option maxRecDepth 20000 in
set_option maxHeartbeats 4000000 in
theorem t_X7_which {X : fX} {M : fM} {d : Nat} {a : Int} (ha : rg a) (hW : WfM M) : fC X (d + 2) mX7_which [.ref (xa X 59), .int (iv a)] M (QI fun r M' => M' = M ∧ ((¬ (0 ≤ a ∧ a ≤ 9999) ∧ r = -2) ∨ ((0 ≤ a ∧ a ≤ 9999) ∧ r = whichZ (M 63) (M 64) (M 65) (M 67) (M 59 12) a))) := by
  obtain ⟨hn, hdm, hmo, hA⟩ := hW
  refine fC.of (L := [_, _, _, _]) (by decide +kernel) rfl (Nat.le_of_ble_eq_true rfl) (fun Z hZ hR => ?_)
  by_cases har : 0 ≤ a ∧ a ≤ 9999
  rotate_left
  · skip
    refine f_iload_n hZ dX7_which_0 rfl ?_
    refine f_i2l hZ dX7_which_1 (by first | omega | exact rg_of _) ?_
    refine f_lconst0 hZ dX7_which_2 ?_
    refine f_ldc2 (v := (9999 : Int64)) hZ (9999) dX7_which_3 (tb_in 1020 (by decide +kernel) (by decide +kernel)) (by decide) ?_
    refine sX7_113 hZ dX7_which_6 (t_X7_in (by omega) (by omega) (by omega)) (fun a6 M6 r6 h6 => ?_)
    obtain ⟨e6, h6⟩ := h6
    replace e6 := e6.symm
    subst e6
    refine f_ne (tgt := 15) hZ dX7_which_9 rfl (by first | omega | exact rg_of _) (fun h9 => ?_) (fun h9 => ?_)
    · exfalso; omega
    · refine f_bipush hZ dX7_which_12 ?_
      exact f_retI hZ hR dX7_which_14 rfl (by first | omega | exact rg_of _) (by exact ⟨rfl, Or.inl ⟨by omega, rfl⟩⟩)
  have loop : ∀ (m : Nat) (w : Int) , 0 ≤ w → w + m = M 59 12 →  fG X mX7_which Z 19 [.ref (xa X 59), .int (iv a), .int (iv (itZ (whichF (M 63) (M 64) (M 65) (M 67) a) 0 w)), .int (iv w)] [] (M) := by
    intro m
    induction m with
    | zero =>
      intro w  h0 hw 
      have hOw := whichZ_rg (M 63) (M 64) (M 65) (M 67) a h0
      refine f_iload_n hZ dX7_which_19 rfl ?_
      refine f_aload_n hZ dX7_which_20 rfl ?_
      refine gX7_110 hZ dX7_which_21 (fun r21 => ?_)
      refine f_ige (tgt := 72) hZ dX7_which_24 rfl (by first | omega | exact rg_of _) (by first | omega | exact rg_of _) (fun h24 => ?_) (fun h24 => ?_)
      · refine f_iload_n hZ dX7_which_72 rfl ?_
        exact f_retI hZ hR dX7_which_73 rfl (by first | omega | exact rg_of _) (by have hwe : w = M 59 12 := (by omega); subst hwe; exact ⟨rfl, Or.inr ⟨har, rfl⟩⟩)
      · exfalso; omega
    | succ m ih =>
      intro w  h0 hw 
      have hOw := whichZ_rg (M 63) (M 64) (M 65) (M 67) a h0
      refine f_iload_n hZ dX7_which_19 rfl ?_
      refine f_aload_n hZ dX7_which_20 rfl ?_
      refine gX7_110 hZ dX7_which_21 (fun r21 => ?_)
      refine f_ige (tgt := 72) hZ dX7_which_24 rfl (by first | omega | exact rg_of _) (by first | omega | exact rg_of _) (fun h24 => ?_) (fun h24 => ?_)
      · exfalso; omega
      · have hq := hA w (by omega) (by omega)
        refine f_iload_n hZ dX7_which_27 rfl ?_
        refine f_aload_n hZ dX7_which_28 rfl ?_
        refine f_iload_n hZ dX7_which_29 rfl ?_
        refine f_aload_n hZ dX7_which_30 rfl ?_
        refine gX7_35 hZ dX7_which_31 ?_
        refine f_iload_n hZ dX7_which_34 rfl ?_
        refine f_iaload hZ dX7_which_35 (by first | rfl | exact hC.t1 | exact hC.t2 | exact hC.t3 | exact hC.t4 | exact hC.t5) (by first | rfl | exact hC.l1 | exact hC.l2 | exact hC.l3 | exact hC.l4 | exact hC.l5) (by first | omega | exact rg_of _) (by first | omega | exact rg_of _) (fun r35 => ?_)
        refine f_aload_n hZ dX7_which_36 rfl ?_
        refine gX7_29 hZ dX7_which_37 ?_
        refine f_iload_n hZ dX7_which_40 rfl ?_
        refine f_iaload hZ dX7_which_41 (by first | rfl | exact hC.t1 | exact hC.t2 | exact hC.t3 | exact hC.t4 | exact hC.t5) (by first | rfl | exact hC.l1 | exact hC.l2 | exact hC.l3 | exact hC.l4 | exact hC.l5) (by first | omega | exact rg_of _) (by first | omega | exact rg_of _) (fun r41 => ?_)
        refine f_iadd hZ dX7_which_42 ?_
        refine f_iconst hZ dX7_which_43 ?_
        refine f_sipush hZ dX7_which_44 ?_
        refine sX7_272 hZ dX7_which_47 (t_X7_within (by omega) (by omega) (by omega)) (fun a47 M47 r47 h47 => ?_)
        obtain ⟨e47, h47⟩ := h47
        replace e47 := e47.symm
        subst e47
        replace h47 : a47 = min 999 (M 67 w + M 65 w) := by omega
        subst h47
        refine vX7_141 hZ dX7_which_50 (t_X7_ash (by omega) (by omega) (by omega) (by omega)) (fun a50 M50 r50 h50 => ?_)
        obtain ⟨e50, h50⟩ := h50
        replace e50 := e50.symm
        subst e50
        subst h50
        have hAr := ashZ_rg (k := M 63 w) (n := M 64 w) (b := min 999 (M 67 w + M 65 w)) (by omega) (by omega)
        refine f_iload_n hZ dX7_which_53 rfl ?_
        refine f_ine (tgt := 61) hZ dX7_which_54 rfl (by first | omega | exact rg_of _) (by first | omega | exact rg_of _) (fun h54 => ?_) (fun h54 => ?_)
        · refine f_iconst hZ dX7_which_61 ?_
          refine f_iload_n hZ dX7_which_62 rfl ?_
          refine f_ishl hZ dX7_which_63 ?_
          refine f_ior hZ dX7_which_64 ?_
          refine f_istore_n (L' := [_, _, _, _]) hZ dX7_which_65 rfl rfl ?_
          refine f_iinc (L' := [_, _, _, _]) hZ dX7_which_66 rfl rfl ?_
          refine f_goto (tgt := 19) hZ dX7_which_69 rfl ?_
          have hh := ih (w + 1) (by omega) (by omega)
          rw [itZ_succ _ _ (by omega)] at hh
          first | (rw [show whichF (M 63) (M 64) (M 65) (M 67) a w (itZ (whichF (M 63) (M 64) (M 65) (M 67) a) 0 w) = orI (itZ (whichF (M 63) (M 64) (M 65) (M 67) a) 0 w) (shlI 1 w) from if_pos (by assumption)] at hh; exact hh) | (rw [show whichF (M 63) (M 64) (M 65) (M 67) a w (itZ (whichF (M 63) (M 64) (M 65) (M 67) a) 0 w) = itZ (whichF (M 63) (M 64) (M 65) (M 67) a) 0 w from if_neg (by assumption)] at hh; rw [or_shl0 hOw]; exact hh)
        · refine f_iconst hZ dX7_which_57 ?_
          refine f_goto (tgt := 62) hZ dX7_which_58 rfl ?_
          refine f_iload_n hZ dX7_which_62 rfl ?_
          refine f_ishl hZ dX7_which_63 ?_
          refine f_ior hZ dX7_which_64 ?_
          refine f_istore_n (L' := [_, _, _, _]) hZ dX7_which_65 rfl rfl ?_
          refine f_iinc (L' := [_, _, _, _]) hZ dX7_which_66 rfl rfl ?_
          refine f_goto (tgt := 19) hZ dX7_which_69 rfl ?_
          have hh := ih (w + 1) (by omega) (by omega)
          rw [itZ_succ _ _ (by omega)] at hh
          first | (rw [show whichF (M 63) (M 64) (M 65) (M 67) a w (itZ (whichF (M 63) (M 64) (M 65) (M 67) a) 0 w) = orI (itZ (whichF (M 63) (M 64) (M 65) (M 67) a) 0 w) (shlI 1 w) from if_pos (by assumption)] at hh; exact hh) | (rw [show whichF (M 63) (M 64) (M 65) (M 67) a w (itZ (whichF (M 63) (M 64) (M 65) (M 67) a) 0 w) = itZ (whichF (M 63) (M 64) (M 65) (M 67) a) 0 w from if_neg (by assumption)] at hh; rw [or_shl0 hOw]; exact hh)
  refine f_iload_n hZ dX7_which_0 rfl ?_
  refine f_i2l hZ dX7_which_1 (by first | omega | exact rg_of _) ?_
  refine f_lconst0 hZ dX7_which_2 ?_
  refine f_ldc2 (v := (9999 : Int64)) hZ (9999) dX7_which_3 (tb_in 1020 (by decide +kernel) (by decide +kernel)) (by decide) ?_
  refine sX7_113 hZ dX7_which_6 (t_X7_in (by omega) (by omega) (by omega)) (fun a6 M6 r6 h6 => ?_)
  obtain ⟨e6, h6⟩ := h6
  replace e6 := e6.symm
  subst e6
  refine f_ne (tgt := 15) hZ dX7_which_9 rfl (by first | omega | exact rg_of _) (fun h9 => ?_) (fun h9 => ?_)
  · refine f_iconst hZ dX7_which_15 ?_
    refine f_istore_n (L' := [_, _, _, _]) hZ dX7_which_16 rfl rfl ?_
    refine f_iconst hZ dX7_which_17 ?_
    refine f_istore_n (L' := [_, _, _, _]) hZ dX7_which_18 rfl rfl ?_
    exact loop (M 59 12).toNat 0 (by omega) (by omega)
  · refine f_bipush hZ dX7_which_12 ?_
    exact f_retI hZ hR dX7_which_14 rfl (by first | omega | exact rg_of _) (by exact ⟨rfl, Or.inl ⟨by omega, rfl⟩⟩)

theorem draw_0 {n : Int} {K N P L B : Int → Int} (hA : WfA n K N P L B) {dmp s k : Int} (hd : 0 ≤ dmp ∧ dmp ≤ 9) (h0 : 0 ≤ k) (h1 : k < n) (h : (L k = 0 ∧ P k = 0) ∨ (L k = 0 ∧ (ushrI (zZ s k * 1103515245 + 12345) 11).tmod 3 = 0)) : drawT K N P L dmp s k = 0 := by
  have hq := hA k h0 h1
  have he := drawE_rg (L := L) (s := s) hq.2.2.2.1
  unfold drawT
  split
  · rfl
  · next hne =>
    rcases h with ⟨h1, h2⟩ | ⟨h1, h2⟩
    · rw [h2]
      have hF := fastZ_rg (k := K k) (n := N k) (l := drawE L s k) (d := dmp) he hq.2.1 hd
      exact lastZ_0 (by omega)
    · exfalso
      apply hne
      unfold drawE
      rw [if_pos h1, zZ_succ s h0]
      exact h2
set_option maxRecDepth 20000 in
set_option maxHeartbeats 4000000 in
theorem t_X7_drawn {X : fX} {M : fM} {d : Nat} {s : Int} (hW : WfM M) : fC X (d + 1) mX7_drawn [.ref (xa X 59), .int (iv s)] M (QI fun r M' => M' = M ∧ r = drawZ (M 63) (M 64) (M 65) (M 66) (M 59 12) (M 59 13) s) := by
  obtain ⟨hn, hdm, hmo, hA⟩ := hW
  refine fC.of (L := [_, _, _, _, _, _, _]) (by decide +kernel) rfl (Nat.le_of_ble_eq_true rfl) (fun Z hZ hR => ?_)
  have loop : ∀ (m : Nat) (w : Int) , 0 ≤ w → w + m = M 59 12 →  fG X mX7_drawn Z 7 [.ref (xa X 59), .int (iv s), .int (iv (zZ s w)), .int (iv (itZ (drawF (M 63) (M 64) (M 65) (M 66) (M 59 13) s) 0 w)), .int (iv w), .null, .null] [] (M) := by
    intro m
    induction m with
    | zero =>
      intro w  h0 hw 
      have hOw := drawZ_rg hA (s := s) hdm h0 (by omega : w ≤ M 59 12)
      refine f_iload hZ dX7_drawn_7 rfl ?_
      refine f_aload_n hZ dX7_drawn_9 rfl ?_
      refine gX7_110 hZ dX7_drawn_10 (fun r10 => ?_)
      refine f_ige (tgt := 112) hZ dX7_drawn_13 rfl (by first | omega | exact rg_of _) (by first | omega | exact rg_of _) (fun h13 => ?_) (fun h13 => ?_)
      · refine f_iload_n hZ dX7_drawn_112 rfl ?_
        exact f_retI hZ hR dX7_drawn_113 rfl (by first | omega | exact rg_of _) (by have hwe : w = M 59 12 := (by omega); subst hwe; exact ⟨rfl, rfl⟩)
      · exfalso; omega
    | succ m ih =>
      intro w  h0 hw 
      have hOw := drawZ_rg hA (s := s) hdm h0 (by omega : w ≤ M 59 12)
      refine f_iload hZ dX7_drawn_7 rfl ?_
      refine f_aload_n hZ dX7_drawn_9 rfl ?_
      refine gX7_110 hZ dX7_drawn_10 (fun r10 => ?_)
      refine f_ige (tgt := 112) hZ dX7_drawn_13 rfl (by first | omega | exact rg_of _) (by first | omega | exact rg_of _) (fun h13 => ?_) (fun h13 => ?_)
      · exfalso; omega
      · have hq := hA w (by omega) (by omega)
        have hE := drawE_rg (L := M 66) (s := s) (k := w) hq.2.2.2.1
        have hus := ushr11 (zZ s w * 1103515245 + 12345)
        have hut := tmodp (a := ushrI (zZ s w * 1103515245 + 12345) 11) (b := 3) hus.1 (by omega)
        refine f_iload_n hZ dX7_drawn_16 rfl ?_
        refine f_ldc_w (v := (1103515245 : Int32)) hZ (1103515245) dX7_drawn_17 (tb_in 1238 (by decide +kernel) (by decide +kernel)) (by decide) ?_
        refine f_imul hZ dX7_drawn_20 ?_
        refine f_sipush hZ dX7_drawn_21 ?_
        refine f_iadd hZ dX7_drawn_24 ?_
        refine f_istore_n (L' := [_, _, _, _, _, _, _]) hZ dX7_drawn_25 rfl rfl ?_
        refine f_aload_n hZ dX7_drawn_26 rfl ?_
        refine gX7_32 hZ dX7_drawn_27 ?_
        refine f_iload hZ dX7_drawn_30 rfl ?_
        refine f_iaload hZ dX7_drawn_32 (by first | rfl | exact hC.t1 | exact hC.t2 | exact hC.t3 | exact hC.t4 | exact hC.t5) (by first | rfl | exact hC.l1 | exact hC.l2 | exact hC.l3 | exact hC.l4 | exact hC.l5) (by first | omega | exact rg_of _) (by first | omega | exact rg_of _) (fun r32 => ?_)
        refine f_ne (tgt := 55) hZ dX7_drawn_33 rfl (by first | omega | exact rg_of _) (fun h33 => ?_) (fun h33 => ?_)
        · refine f_aload_n hZ dX7_drawn_55 rfl ?_
          refine gX7_32 hZ dX7_drawn_56 ?_
          refine f_iload hZ dX7_drawn_59 rfl ?_
          refine f_iaload hZ dX7_drawn_61 (by first | rfl | exact hC.t1 | exact hC.t2 | exact hC.t3 | exact hC.t4 | exact hC.t5) (by first | rfl | exact hC.l1 | exact hC.l2 | exact hC.l3 | exact hC.l4 | exact hC.l5) (by first | omega | exact rg_of _) (by first | omega | exact rg_of _) (fun r61 => ?_)
          refine f_nm (fun e5 ee5 => ?_)
          refine f_istore (L' := [_, _, _, _, _, _, _]) hZ dX7_drawn_62 rfl rfl ?_
          refine f_iload hZ dX7_drawn_64 rfl ?_
          refine f_le (tgt := 106) hZ dX7_drawn_66 rfl (by first | omega | exact rg_of _) (fun h66 => ?_) (fun h66 => ?_)
          · refine f_iinc (L' := [_, _, _, _, _, _, _]) hZ dX7_drawn_106 rfl rfl ?_
            refine f_goto (tgt := 7) hZ dX7_drawn_109 rfl ?_
            refine f_forget (L' := [_, _, _, _, _, .null, .null]) ⟨Or.inl rfl, Or.inl rfl, Or.inl rfl, Or.inl rfl, Or.inl rfl, Or.inr rfl, Or.inr rfl, trivial⟩ ?_
            have hh := ih (w + 1) (by omega) (by omega)
            rw [itZ_succ _ _ (by omega), zZ_succ s h0] at hh
            first
              | (rw [show drawF (M 63) (M 64) (M 65) (M 66) (M 59 13) s w (itZ (drawF (M 63) (M 64) (M 65) (M 66) (M 59 13) s) 0 w) = drawT (M 63) (M 64) (M 65) (M 66) (M 59 13) s w by (show max (itZ (drawF (M 63) (M 64) (M 65) (M 66) (M 59 13) s) 0 w) (drawT (M 63) (M 64) (M 65) (M 66) (M 59 13) s w) = _; omega)] at hh; exact hh)
              | (rw [show drawF (M 63) (M 64) (M 65) (M 66) (M 59 13) s w (itZ (drawF (M 63) (M 64) (M 65) (M 66) (M 59 13) s) 0 w) = itZ (drawF (M 63) (M 64) (M 65) (M 66) (M 59 13) s) 0 w by (show max (itZ (drawF (M 63) (M 64) (M 65) (M 66) (M 59 13) s) 0 w) (drawT (M 63) (M 64) (M 65) (M 66) (M 59 13) s w) = _; omega)] at hh; exact hh)
              | (have hD0 : drawT (M 63) (M 64) (M 65) (M 66) (M 59 13) s w = 0 := draw_0 hA hdm h0 (by omega) (by omega); rw [show drawF (M 63) (M 64) (M 65) (M 66) (M 59 13) s w (itZ (drawF (M 63) (M 64) (M 65) (M 66) (M 59 13) s) 0 w) = itZ (drawF (M 63) (M 64) (M 65) (M 66) (M 59 13) s) 0 w by (show max (itZ (drawF (M 63) (M 64) (M 65) (M 66) (M 59 13) s) 0 w) (drawT (M 63) (M 64) (M 65) (M 66) (M 59 13) s w) = _; omega)] at hh; exact hh)
          · have he5 : e5 = drawE (M 66) s w := by first | (exfalso; omega) | (rw [ee5]; unfold drawE; rw [zZ_succ s h0]; first | rw [if_pos (by omega)] | rw [if_neg (by omega)])
            refine f_aload_n hZ dX7_drawn_69 rfl ?_
            refine gX7_29 hZ dX7_drawn_70 ?_
            refine f_iload hZ dX7_drawn_73 rfl ?_
            refine f_iaload hZ dX7_drawn_75 (by first | rfl | exact hC.t1 | exact hC.t2 | exact hC.t3 | exact hC.t4 | exact hC.t5) (by first | rfl | exact hC.l1 | exact hC.l2 | exact hC.l3 | exact hC.l4 | exact hC.l5) (by first | omega | exact rg_of _) (by first | omega | exact rg_of _) (fun r75 => ?_)
            refine f_aload_n hZ dX7_drawn_76 rfl ?_
            refine f_iload hZ dX7_drawn_77 rfl ?_
            refine f_iload hZ dX7_drawn_79 rfl ?_
            refine f_aload_n hZ dX7_drawn_81 rfl ?_
            refine gX7_133 hZ dX7_drawn_82 (fun r82 => ?_)
            refine vX7_145 hZ dX7_drawn_85 (t_X7_fast (by omega) (by omega) (by omega) (by omega) (by omega)) (fun a85 M85 r85 h85 => ?_)
            obtain ⟨e85, h85⟩ := h85
            replace e85 := e85.symm
            subst e85
            subst h85
            have hF := fastZ_rg (k := M 63 w) (n := M 64 w) (l := e5) (by omega) (by omega) hdm
            refine sX7_283 hZ dX7_drawn_88 (t_X7_until (by omega) (by omega)) (fun a88 M88 r88 h88 => ?_)
            obtain ⟨e88, h88⟩ := h88
            replace e88 := e88.symm
            subst e88
            replace h88 : a88 = lastZ (M 65 w) (fastZ (M 63 w) (M 64 w) e5 (M 59 13)) := h88
            have hD : drawT (M 63) (M 64) (M 65) (M 66) (M 59 13) s w = lastZ (M 65 w) (fastZ (M 63 w) (M 64 w) e5 (M 59 13)) := by unfold drawT; rw [← he5, if_neg (by omega)]
            have hTr := drawT_rg hA (s := s) hdm h0 (by omega : w < M 59 12)
            rw [← hD] at h88
            subst h88
            refine f_istore (L' := [_, _, _, _, _, _, _]) hZ dX7_drawn_91 rfl rfl ?_
            refine f_iload hZ dX7_drawn_93 rfl ?_
            refine f_iload_n hZ dX7_drawn_95 rfl ?_
            refine f_ile (tgt := 104) hZ dX7_drawn_96 rfl (by first | omega | exact rg_of _) (by first | omega | exact rg_of _) (fun h96 => ?_) (fun h96 => ?_)
            · refine f_iload_n hZ dX7_drawn_104 rfl ?_
              refine f_istore_n (L' := [_, _, _, _, _, _, _]) hZ dX7_drawn_105 rfl rfl ?_
              refine f_iinc (L' := [_, _, _, _, _, _, _]) hZ dX7_drawn_106 rfl rfl ?_
              refine f_goto (tgt := 7) hZ dX7_drawn_109 rfl ?_
              refine f_forget (L' := [_, _, _, _, _, .null, .null]) ⟨Or.inl rfl, Or.inl rfl, Or.inl rfl, Or.inl rfl, Or.inl rfl, Or.inr rfl, Or.inr rfl, trivial⟩ ?_
              have hh := ih (w + 1) (by omega) (by omega)
              rw [itZ_succ _ _ (by omega), zZ_succ s h0] at hh
              first
                | (rw [show drawF (M 63) (M 64) (M 65) (M 66) (M 59 13) s w (itZ (drawF (M 63) (M 64) (M 65) (M 66) (M 59 13) s) 0 w) = drawT (M 63) (M 64) (M 65) (M 66) (M 59 13) s w by (show max (itZ (drawF (M 63) (M 64) (M 65) (M 66) (M 59 13) s) 0 w) (drawT (M 63) (M 64) (M 65) (M 66) (M 59 13) s w) = _; omega)] at hh; exact hh)
                | (rw [show drawF (M 63) (M 64) (M 65) (M 66) (M 59 13) s w (itZ (drawF (M 63) (M 64) (M 65) (M 66) (M 59 13) s) 0 w) = itZ (drawF (M 63) (M 64) (M 65) (M 66) (M 59 13) s) 0 w by (show max (itZ (drawF (M 63) (M 64) (M 65) (M 66) (M 59 13) s) 0 w) (drawT (M 63) (M 64) (M 65) (M 66) (M 59 13) s w) = _; omega)] at hh; exact hh)
                | (have hD0 : drawT (M 63) (M 64) (M 65) (M 66) (M 59 13) s w = 0 := draw_0 hA hdm h0 (by omega) (by omega); rw [show drawF (M 63) (M 64) (M 65) (M 66) (M 59 13) s w (itZ (drawF (M 63) (M 64) (M 65) (M 66) (M 59 13) s) 0 w) = itZ (drawF (M 63) (M 64) (M 65) (M 66) (M 59 13) s) 0 w by (show max (itZ (drawF (M 63) (M 64) (M 65) (M 66) (M 59 13) s) 0 w) (drawT (M 63) (M 64) (M 65) (M 66) (M 59 13) s w) = _; omega)] at hh; exact hh)
            · refine f_iload hZ dX7_drawn_99 rfl ?_
              refine f_goto (tgt := 105) hZ dX7_drawn_101 rfl ?_
              refine f_istore_n (L' := [_, _, _, _, _, _, _]) hZ dX7_drawn_105 rfl rfl ?_
              refine f_iinc (L' := [_, _, _, _, _, _, _]) hZ dX7_drawn_106 rfl rfl ?_
              refine f_goto (tgt := 7) hZ dX7_drawn_109 rfl ?_
              refine f_forget (L' := [_, _, _, _, _, .null, .null]) ⟨Or.inl rfl, Or.inl rfl, Or.inl rfl, Or.inl rfl, Or.inl rfl, Or.inr rfl, Or.inr rfl, trivial⟩ ?_
              have hh := ih (w + 1) (by omega) (by omega)
              rw [itZ_succ _ _ (by omega), zZ_succ s h0] at hh
              first
                | (rw [show drawF (M 63) (M 64) (M 65) (M 66) (M 59 13) s w (itZ (drawF (M 63) (M 64) (M 65) (M 66) (M 59 13) s) 0 w) = drawT (M 63) (M 64) (M 65) (M 66) (M 59 13) s w by (show max (itZ (drawF (M 63) (M 64) (M 65) (M 66) (M 59 13) s) 0 w) (drawT (M 63) (M 64) (M 65) (M 66) (M 59 13) s w) = _; omega)] at hh; exact hh)
                | (rw [show drawF (M 63) (M 64) (M 65) (M 66) (M 59 13) s w (itZ (drawF (M 63) (M 64) (M 65) (M 66) (M 59 13) s) 0 w) = itZ (drawF (M 63) (M 64) (M 65) (M 66) (M 59 13) s) 0 w by (show max (itZ (drawF (M 63) (M 64) (M 65) (M 66) (M 59 13) s) 0 w) (drawT (M 63) (M 64) (M 65) (M 66) (M 59 13) s w) = _; omega)] at hh; exact hh)
                | (have hD0 : drawT (M 63) (M 64) (M 65) (M 66) (M 59 13) s w = 0 := draw_0 hA hdm h0 (by omega) (by omega); rw [show drawF (M 63) (M 64) (M 65) (M 66) (M 59 13) s w (itZ (drawF (M 63) (M 64) (M 65) (M 66) (M 59 13) s) 0 w) = itZ (drawF (M 63) (M 64) (M 65) (M 66) (M 59 13) s) 0 w by (show max (itZ (drawF (M 63) (M 64) (M 65) (M 66) (M 59 13) s) 0 w) (drawT (M 63) (M 64) (M 65) (M 66) (M 59 13) s w) = _; omega)] at hh; exact hh)
        · refine f_aload_n hZ dX7_drawn_36 rfl ?_
          refine gX7_29 hZ dX7_drawn_37 ?_
          refine f_iload hZ dX7_drawn_40 rfl ?_
          refine f_iaload hZ dX7_drawn_42 (by first | rfl | exact hC.t1 | exact hC.t2 | exact hC.t3 | exact hC.t4 | exact hC.t5) (by first | rfl | exact hC.l1 | exact hC.l2 | exact hC.l3 | exact hC.l4 | exact hC.l5) (by first | omega | exact rg_of _) (by first | omega | exact rg_of _) (fun r42 => ?_)
          refine f_le (tgt := 55) hZ dX7_drawn_43 rfl (by first | omega | exact rg_of _) (fun h43 => ?_) (fun h43 => ?_)
          · refine f_aload_n hZ dX7_drawn_55 rfl ?_
            refine gX7_32 hZ dX7_drawn_56 ?_
            refine f_iload hZ dX7_drawn_59 rfl ?_
            refine f_iaload hZ dX7_drawn_61 (by first | rfl | exact hC.t1 | exact hC.t2 | exact hC.t3 | exact hC.t4 | exact hC.t5) (by first | rfl | exact hC.l1 | exact hC.l2 | exact hC.l3 | exact hC.l4 | exact hC.l5) (by first | omega | exact rg_of _) (by first | omega | exact rg_of _) (fun r61 => ?_)
            refine f_nm (fun e5 ee5 => ?_)
            refine f_istore (L' := [_, _, _, _, _, _, _]) hZ dX7_drawn_62 rfl rfl ?_
            refine f_iload hZ dX7_drawn_64 rfl ?_
            refine f_le (tgt := 106) hZ dX7_drawn_66 rfl (by first | omega | exact rg_of _) (fun h66 => ?_) (fun h66 => ?_)
            · refine f_iinc (L' := [_, _, _, _, _, _, _]) hZ dX7_drawn_106 rfl rfl ?_
              refine f_goto (tgt := 7) hZ dX7_drawn_109 rfl ?_
              refine f_forget (L' := [_, _, _, _, _, .null, .null]) ⟨Or.inl rfl, Or.inl rfl, Or.inl rfl, Or.inl rfl, Or.inl rfl, Or.inr rfl, Or.inr rfl, trivial⟩ ?_
              have hh := ih (w + 1) (by omega) (by omega)
              rw [itZ_succ _ _ (by omega), zZ_succ s h0] at hh
              first
                | (rw [show drawF (M 63) (M 64) (M 65) (M 66) (M 59 13) s w (itZ (drawF (M 63) (M 64) (M 65) (M 66) (M 59 13) s) 0 w) = drawT (M 63) (M 64) (M 65) (M 66) (M 59 13) s w by (show max (itZ (drawF (M 63) (M 64) (M 65) (M 66) (M 59 13) s) 0 w) (drawT (M 63) (M 64) (M 65) (M 66) (M 59 13) s w) = _; omega)] at hh; exact hh)
                | (rw [show drawF (M 63) (M 64) (M 65) (M 66) (M 59 13) s w (itZ (drawF (M 63) (M 64) (M 65) (M 66) (M 59 13) s) 0 w) = itZ (drawF (M 63) (M 64) (M 65) (M 66) (M 59 13) s) 0 w by (show max (itZ (drawF (M 63) (M 64) (M 65) (M 66) (M 59 13) s) 0 w) (drawT (M 63) (M 64) (M 65) (M 66) (M 59 13) s w) = _; omega)] at hh; exact hh)
                | (have hD0 : drawT (M 63) (M 64) (M 65) (M 66) (M 59 13) s w = 0 := draw_0 hA hdm h0 (by omega) (by omega); rw [show drawF (M 63) (M 64) (M 65) (M 66) (M 59 13) s w (itZ (drawF (M 63) (M 64) (M 65) (M 66) (M 59 13) s) 0 w) = itZ (drawF (M 63) (M 64) (M 65) (M 66) (M 59 13) s) 0 w by (show max (itZ (drawF (M 63) (M 64) (M 65) (M 66) (M 59 13) s) 0 w) (drawT (M 63) (M 64) (M 65) (M 66) (M 59 13) s w) = _; omega)] at hh; exact hh)
            · have he5 : e5 = drawE (M 66) s w := by first | (exfalso; omega) | (rw [ee5]; unfold drawE; rw [zZ_succ s h0]; first | rw [if_pos (by omega)] | rw [if_neg (by omega)])
              refine f_aload_n hZ dX7_drawn_69 rfl ?_
              refine gX7_29 hZ dX7_drawn_70 ?_
              refine f_iload hZ dX7_drawn_73 rfl ?_
              refine f_iaload hZ dX7_drawn_75 (by first | rfl | exact hC.t1 | exact hC.t2 | exact hC.t3 | exact hC.t4 | exact hC.t5) (by first | rfl | exact hC.l1 | exact hC.l2 | exact hC.l3 | exact hC.l4 | exact hC.l5) (by first | omega | exact rg_of _) (by first | omega | exact rg_of _) (fun r75 => ?_)
              refine f_aload_n hZ dX7_drawn_76 rfl ?_
              refine f_iload hZ dX7_drawn_77 rfl ?_
              refine f_iload hZ dX7_drawn_79 rfl ?_
              refine f_aload_n hZ dX7_drawn_81 rfl ?_
              refine gX7_133 hZ dX7_drawn_82 (fun r82 => ?_)
              refine vX7_145 hZ dX7_drawn_85 (t_X7_fast (by omega) (by omega) (by omega) (by omega) (by omega)) (fun a85 M85 r85 h85 => ?_)
              obtain ⟨e85, h85⟩ := h85
              replace e85 := e85.symm
              subst e85
              subst h85
              have hF := fastZ_rg (k := M 63 w) (n := M 64 w) (l := e5) (by omega) (by omega) hdm
              refine sX7_283 hZ dX7_drawn_88 (t_X7_until (by omega) (by omega)) (fun a88 M88 r88 h88 => ?_)
              obtain ⟨e88, h88⟩ := h88
              replace e88 := e88.symm
              subst e88
              replace h88 : a88 = lastZ (M 65 w) (fastZ (M 63 w) (M 64 w) e5 (M 59 13)) := h88
              have hD : drawT (M 63) (M 64) (M 65) (M 66) (M 59 13) s w = lastZ (M 65 w) (fastZ (M 63 w) (M 64 w) e5 (M 59 13)) := by unfold drawT; rw [← he5, if_neg (by omega)]
              have hTr := drawT_rg hA (s := s) hdm h0 (by omega : w < M 59 12)
              rw [← hD] at h88
              subst h88
              refine f_istore (L' := [_, _, _, _, _, _, _]) hZ dX7_drawn_91 rfl rfl ?_
              refine f_iload hZ dX7_drawn_93 rfl ?_
              refine f_iload_n hZ dX7_drawn_95 rfl ?_
              refine f_ile (tgt := 104) hZ dX7_drawn_96 rfl (by first | omega | exact rg_of _) (by first | omega | exact rg_of _) (fun h96 => ?_) (fun h96 => ?_)
              · refine f_iload_n hZ dX7_drawn_104 rfl ?_
                refine f_istore_n (L' := [_, _, _, _, _, _, _]) hZ dX7_drawn_105 rfl rfl ?_
                refine f_iinc (L' := [_, _, _, _, _, _, _]) hZ dX7_drawn_106 rfl rfl ?_
                refine f_goto (tgt := 7) hZ dX7_drawn_109 rfl ?_
                refine f_forget (L' := [_, _, _, _, _, .null, .null]) ⟨Or.inl rfl, Or.inl rfl, Or.inl rfl, Or.inl rfl, Or.inl rfl, Or.inr rfl, Or.inr rfl, trivial⟩ ?_
                have hh := ih (w + 1) (by omega) (by omega)
                rw [itZ_succ _ _ (by omega), zZ_succ s h0] at hh
                first
                  | (rw [show drawF (M 63) (M 64) (M 65) (M 66) (M 59 13) s w (itZ (drawF (M 63) (M 64) (M 65) (M 66) (M 59 13) s) 0 w) = drawT (M 63) (M 64) (M 65) (M 66) (M 59 13) s w by (show max (itZ (drawF (M 63) (M 64) (M 65) (M 66) (M 59 13) s) 0 w) (drawT (M 63) (M 64) (M 65) (M 66) (M 59 13) s w) = _; omega)] at hh; exact hh)
                  | (rw [show drawF (M 63) (M 64) (M 65) (M 66) (M 59 13) s w (itZ (drawF (M 63) (M 64) (M 65) (M 66) (M 59 13) s) 0 w) = itZ (drawF (M 63) (M 64) (M 65) (M 66) (M 59 13) s) 0 w by (show max (itZ (drawF (M 63) (M 64) (M 65) (M 66) (M 59 13) s) 0 w) (drawT (M 63) (M 64) (M 65) (M 66) (M 59 13) s w) = _; omega)] at hh; exact hh)
                  | (have hD0 : drawT (M 63) (M 64) (M 65) (M 66) (M 59 13) s w = 0 := draw_0 hA hdm h0 (by omega) (by omega); rw [show drawF (M 63) (M 64) (M 65) (M 66) (M 59 13) s w (itZ (drawF (M 63) (M 64) (M 65) (M 66) (M 59 13) s) 0 w) = itZ (drawF (M 63) (M 64) (M 65) (M 66) (M 59 13) s) 0 w by (show max (itZ (drawF (M 63) (M 64) (M 65) (M 66) (M 59 13) s) 0 w) (drawT (M 63) (M 64) (M 65) (M 66) (M 59 13) s w) = _; omega)] at hh; exact hh)
              · refine f_iload hZ dX7_drawn_99 rfl ?_
                refine f_goto (tgt := 105) hZ dX7_drawn_101 rfl ?_
                refine f_istore_n (L' := [_, _, _, _, _, _, _]) hZ dX7_drawn_105 rfl rfl ?_
                refine f_iinc (L' := [_, _, _, _, _, _, _]) hZ dX7_drawn_106 rfl rfl ?_
                refine f_goto (tgt := 7) hZ dX7_drawn_109 rfl ?_
                refine f_forget (L' := [_, _, _, _, _, .null, .null]) ⟨Or.inl rfl, Or.inl rfl, Or.inl rfl, Or.inl rfl, Or.inl rfl, Or.inr rfl, Or.inr rfl, trivial⟩ ?_
                have hh := ih (w + 1) (by omega) (by omega)
                rw [itZ_succ _ _ (by omega), zZ_succ s h0] at hh
                first
                  | (rw [show drawF (M 63) (M 64) (M 65) (M 66) (M 59 13) s w (itZ (drawF (M 63) (M 64) (M 65) (M 66) (M 59 13) s) 0 w) = drawT (M 63) (M 64) (M 65) (M 66) (M 59 13) s w by (show max (itZ (drawF (M 63) (M 64) (M 65) (M 66) (M 59 13) s) 0 w) (drawT (M 63) (M 64) (M 65) (M 66) (M 59 13) s w) = _; omega)] at hh; exact hh)
                  | (rw [show drawF (M 63) (M 64) (M 65) (M 66) (M 59 13) s w (itZ (drawF (M 63) (M 64) (M 65) (M 66) (M 59 13) s) 0 w) = itZ (drawF (M 63) (M 64) (M 65) (M 66) (M 59 13) s) 0 w by (show max (itZ (drawF (M 63) (M 64) (M 65) (M 66) (M 59 13) s) 0 w) (drawT (M 63) (M 64) (M 65) (M 66) (M 59 13) s w) = _; omega)] at hh; exact hh)
                  | (have hD0 : drawT (M 63) (M 64) (M 65) (M 66) (M 59 13) s w = 0 := draw_0 hA hdm h0 (by omega) (by omega); rw [show drawF (M 63) (M 64) (M 65) (M 66) (M 59 13) s w (itZ (drawF (M 63) (M 64) (M 65) (M 66) (M 59 13) s) 0 w) = itZ (drawF (M 63) (M 64) (M 65) (M 66) (M 59 13) s) 0 w by (show max (itZ (drawF (M 63) (M 64) (M 65) (M 66) (M 59 13) s) 0 w) (drawT (M 63) (M 64) (M 65) (M 66) (M 59 13) s w) = _; omega)] at hh; exact hh)
          · refine f_iload_n hZ dX7_drawn_46 rfl ?_
            refine f_bipush hZ dX7_drawn_47 ?_
            refine f_iushr hZ dX7_drawn_49 ?_
            refine f_iconst hZ dX7_drawn_50 ?_
            refine f_irem hZ dX7_drawn_51 (by first | omega | exact rg_of _) (by first | omega | exact rg_of _) (by first | omega | exact rg_of _) (by first | omega | exact rg_of _) ?_
            refine f_goto (tgt := 62) hZ dX7_drawn_52 rfl ?_
            refine f_nm (fun e5 ee5 => ?_)
            refine f_istore (L' := [_, _, _, _, _, _, _]) hZ dX7_drawn_62 rfl rfl ?_
            refine f_iload hZ dX7_drawn_64 rfl ?_
            refine f_le (tgt := 106) hZ dX7_drawn_66 rfl (by first | omega | exact rg_of _) (fun h66 => ?_) (fun h66 => ?_)
            · refine f_iinc (L' := [_, _, _, _, _, _, _]) hZ dX7_drawn_106 rfl rfl ?_
              refine f_goto (tgt := 7) hZ dX7_drawn_109 rfl ?_
              refine f_forget (L' := [_, _, _, _, _, .null, .null]) ⟨Or.inl rfl, Or.inl rfl, Or.inl rfl, Or.inl rfl, Or.inl rfl, Or.inr rfl, Or.inr rfl, trivial⟩ ?_
              have hh := ih (w + 1) (by omega) (by omega)
              rw [itZ_succ _ _ (by omega), zZ_succ s h0] at hh
              first
                | (rw [show drawF (M 63) (M 64) (M 65) (M 66) (M 59 13) s w (itZ (drawF (M 63) (M 64) (M 65) (M 66) (M 59 13) s) 0 w) = drawT (M 63) (M 64) (M 65) (M 66) (M 59 13) s w by (show max (itZ (drawF (M 63) (M 64) (M 65) (M 66) (M 59 13) s) 0 w) (drawT (M 63) (M 64) (M 65) (M 66) (M 59 13) s w) = _; omega)] at hh; exact hh)
                | (rw [show drawF (M 63) (M 64) (M 65) (M 66) (M 59 13) s w (itZ (drawF (M 63) (M 64) (M 65) (M 66) (M 59 13) s) 0 w) = itZ (drawF (M 63) (M 64) (M 65) (M 66) (M 59 13) s) 0 w by (show max (itZ (drawF (M 63) (M 64) (M 65) (M 66) (M 59 13) s) 0 w) (drawT (M 63) (M 64) (M 65) (M 66) (M 59 13) s w) = _; omega)] at hh; exact hh)
                | (have hD0 : drawT (M 63) (M 64) (M 65) (M 66) (M 59 13) s w = 0 := draw_0 hA hdm h0 (by omega) (by omega); rw [show drawF (M 63) (M 64) (M 65) (M 66) (M 59 13) s w (itZ (drawF (M 63) (M 64) (M 65) (M 66) (M 59 13) s) 0 w) = itZ (drawF (M 63) (M 64) (M 65) (M 66) (M 59 13) s) 0 w by (show max (itZ (drawF (M 63) (M 64) (M 65) (M 66) (M 59 13) s) 0 w) (drawT (M 63) (M 64) (M 65) (M 66) (M 59 13) s w) = _; omega)] at hh; exact hh)
            · have he5 : e5 = drawE (M 66) s w := by first | (exfalso; omega) | (rw [ee5]; unfold drawE; rw [zZ_succ s h0]; first | rw [if_pos (by omega)] | rw [if_neg (by omega)])
              refine f_aload_n hZ dX7_drawn_69 rfl ?_
              refine gX7_29 hZ dX7_drawn_70 ?_
              refine f_iload hZ dX7_drawn_73 rfl ?_
              refine f_iaload hZ dX7_drawn_75 (by first | rfl | exact hC.t1 | exact hC.t2 | exact hC.t3 | exact hC.t4 | exact hC.t5) (by first | rfl | exact hC.l1 | exact hC.l2 | exact hC.l3 | exact hC.l4 | exact hC.l5) (by first | omega | exact rg_of _) (by first | omega | exact rg_of _) (fun r75 => ?_)
              refine f_aload_n hZ dX7_drawn_76 rfl ?_
              refine f_iload hZ dX7_drawn_77 rfl ?_
              refine f_iload hZ dX7_drawn_79 rfl ?_
              refine f_aload_n hZ dX7_drawn_81 rfl ?_
              refine gX7_133 hZ dX7_drawn_82 (fun r82 => ?_)
              refine vX7_145 hZ dX7_drawn_85 (t_X7_fast (by omega) (by omega) (by omega) (by omega) (by omega)) (fun a85 M85 r85 h85 => ?_)
              obtain ⟨e85, h85⟩ := h85
              replace e85 := e85.symm
              subst e85
              subst h85
              have hF := fastZ_rg (k := M 63 w) (n := M 64 w) (l := e5) (by omega) (by omega) hdm
              refine sX7_283 hZ dX7_drawn_88 (t_X7_until (by omega) (by omega)) (fun a88 M88 r88 h88 => ?_)
              obtain ⟨e88, h88⟩ := h88
              replace e88 := e88.symm
              subst e88
              replace h88 : a88 = lastZ (M 65 w) (fastZ (M 63 w) (M 64 w) e5 (M 59 13)) := h88
              have hD : drawT (M 63) (M 64) (M 65) (M 66) (M 59 13) s w = lastZ (M 65 w) (fastZ (M 63 w) (M 64 w) e5 (M 59 13)) := by unfold drawT; rw [← he5, if_neg (by omega)]
              have hTr := drawT_rg hA (s := s) hdm h0 (by omega : w < M 59 12)
              rw [← hD] at h88
              subst h88
              refine f_istore (L' := [_, _, _, _, _, _, _]) hZ dX7_drawn_91 rfl rfl ?_
              refine f_iload hZ dX7_drawn_93 rfl ?_
              refine f_iload_n hZ dX7_drawn_95 rfl ?_
              refine f_ile (tgt := 104) hZ dX7_drawn_96 rfl (by first | omega | exact rg_of _) (by first | omega | exact rg_of _) (fun h96 => ?_) (fun h96 => ?_)
              · refine f_iload_n hZ dX7_drawn_104 rfl ?_
                refine f_istore_n (L' := [_, _, _, _, _, _, _]) hZ dX7_drawn_105 rfl rfl ?_
                refine f_iinc (L' := [_, _, _, _, _, _, _]) hZ dX7_drawn_106 rfl rfl ?_
                refine f_goto (tgt := 7) hZ dX7_drawn_109 rfl ?_
                refine f_forget (L' := [_, _, _, _, _, .null, .null]) ⟨Or.inl rfl, Or.inl rfl, Or.inl rfl, Or.inl rfl, Or.inl rfl, Or.inr rfl, Or.inr rfl, trivial⟩ ?_
                have hh := ih (w + 1) (by omega) (by omega)
                rw [itZ_succ _ _ (by omega), zZ_succ s h0] at hh
                first
                  | (rw [show drawF (M 63) (M 64) (M 65) (M 66) (M 59 13) s w (itZ (drawF (M 63) (M 64) (M 65) (M 66) (M 59 13) s) 0 w) = drawT (M 63) (M 64) (M 65) (M 66) (M 59 13) s w by (show max (itZ (drawF (M 63) (M 64) (M 65) (M 66) (M 59 13) s) 0 w) (drawT (M 63) (M 64) (M 65) (M 66) (M 59 13) s w) = _; omega)] at hh; exact hh)
                  | (rw [show drawF (M 63) (M 64) (M 65) (M 66) (M 59 13) s w (itZ (drawF (M 63) (M 64) (M 65) (M 66) (M 59 13) s) 0 w) = itZ (drawF (M 63) (M 64) (M 65) (M 66) (M 59 13) s) 0 w by (show max (itZ (drawF (M 63) (M 64) (M 65) (M 66) (M 59 13) s) 0 w) (drawT (M 63) (M 64) (M 65) (M 66) (M 59 13) s w) = _; omega)] at hh; exact hh)
                  | (have hD0 : drawT (M 63) (M 64) (M 65) (M 66) (M 59 13) s w = 0 := draw_0 hA hdm h0 (by omega) (by omega); rw [show drawF (M 63) (M 64) (M 65) (M 66) (M 59 13) s w (itZ (drawF (M 63) (M 64) (M 65) (M 66) (M 59 13) s) 0 w) = itZ (drawF (M 63) (M 64) (M 65) (M 66) (M 59 13) s) 0 w by (show max (itZ (drawF (M 63) (M 64) (M 65) (M 66) (M 59 13) s) 0 w) (drawT (M 63) (M 64) (M 65) (M 66) (M 59 13) s w) = _; omega)] at hh; exact hh)
              · refine f_iload hZ dX7_drawn_99 rfl ?_
                refine f_goto (tgt := 105) hZ dX7_drawn_101 rfl ?_
                refine f_istore_n (L' := [_, _, _, _, _, _, _]) hZ dX7_drawn_105 rfl rfl ?_
                refine f_iinc (L' := [_, _, _, _, _, _, _]) hZ dX7_drawn_106 rfl rfl ?_
                refine f_goto (tgt := 7) hZ dX7_drawn_109 rfl ?_
                refine f_forget (L' := [_, _, _, _, _, .null, .null]) ⟨Or.inl rfl, Or.inl rfl, Or.inl rfl, Or.inl rfl, Or.inl rfl, Or.inr rfl, Or.inr rfl, trivial⟩ ?_
                have hh := ih (w + 1) (by omega) (by omega)
                rw [itZ_succ _ _ (by omega), zZ_succ s h0] at hh
                first
                  | (rw [show drawF (M 63) (M 64) (M 65) (M 66) (M 59 13) s w (itZ (drawF (M 63) (M 64) (M 65) (M 66) (M 59 13) s) 0 w) = drawT (M 63) (M 64) (M 65) (M 66) (M 59 13) s w by (show max (itZ (drawF (M 63) (M 64) (M 65) (M 66) (M 59 13) s) 0 w) (drawT (M 63) (M 64) (M 65) (M 66) (M 59 13) s w) = _; omega)] at hh; exact hh)
                  | (rw [show drawF (M 63) (M 64) (M 65) (M 66) (M 59 13) s w (itZ (drawF (M 63) (M 64) (M 65) (M 66) (M 59 13) s) 0 w) = itZ (drawF (M 63) (M 64) (M 65) (M 66) (M 59 13) s) 0 w by (show max (itZ (drawF (M 63) (M 64) (M 65) (M 66) (M 59 13) s) 0 w) (drawT (M 63) (M 64) (M 65) (M 66) (M 59 13) s w) = _; omega)] at hh; exact hh)
                  | (have hD0 : drawT (M 63) (M 64) (M 65) (M 66) (M 59 13) s w = 0 := draw_0 hA hdm h0 (by omega) (by omega); rw [show drawF (M 63) (M 64) (M 65) (M 66) (M 59 13) s w (itZ (drawF (M 63) (M 64) (M 65) (M 66) (M 59 13) s) 0 w) = itZ (drawF (M 63) (M 64) (M 65) (M 66) (M 59 13) s) 0 w by (show max (itZ (drawF (M 63) (M 64) (M 65) (M 66) (M 59 13) s) 0 w) (drawT (M 63) (M 64) (M 65) (M 66) (M 59 13) s w) = _; omega)] at hh; exact hh)
  refine f_iload_n hZ dX7_drawn_0 rfl ?_
  refine f_istore_n (L' := [_, _, _, _, _, _, _]) hZ dX7_drawn_1 rfl rfl ?_
  refine f_iconst hZ dX7_drawn_2 ?_
  refine f_istore_n (L' := [_, _, _, _, _, _, _]) hZ dX7_drawn_3 rfl rfl ?_
  refine f_iconst hZ dX7_drawn_4 ?_
  refine f_istore (L' := [_, _, _, _, _, _, _]) hZ dX7_drawn_5 rfl rfl ?_
  exact loop (M 59 12).toNat 0 (by omega) (by omega)

