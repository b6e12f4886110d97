/-! the model's worth, sure -/
def woM (M : fM) (W : Int → pV) (y : Int) : Int := bd 999 (W 1 (nmf 0 (M 59 13) 0 0 0 y))
theorem woM_rg {M : fM} {W : Int → pV} {y : Int} : 0 ≤ woM M W y ∧ woM M W y ≤ 999 := bd_rg (by omega)
theorem t_saysW {X : fX} {M N : fM} {d : Nat} {W : Int → pV} {k a l b w s : Int} (hG : gokM M W) (e13 : N 59 13 = M 59 13) (e4 : N 59 4 = M 59 4) (e60 : N 60 = M 60) (e61 : N 61 = M 61) (hk : 0 ≤ k ∧ k ≤ 2) (ha : rg a) (hl : rg l) (hb : rg b) (hw : rg w) (hs : rg s) : fC X (d + 48) mX7_says [.ref (xa X 59), .int (iv k), .int (iv a), .int (iv l), .int (iv b), .int (iv w), .int (iv s)] N (QI fun r K => sY N K ∧ r = bd (if k = 1 then 999 else 99) (W k (nmf a (M 59 13) l b w s))) := by
  obtain ⟨g1, B, n, g2, g3⟩ := hG.eq e4 e60 e61
  have h := t_X7_says (X := X) (d := d) (k := k) (a := a) (l := l) (b := b) (w := w) (s := s) hk g1 g2 ha hl hb hw hs
  rw [g3 k hk.1 hk.2, e13] at h
  exact h
theorem vE_sY {M K : fM} (h : sY M K) : vE K = vE M ∧ vC K = vC M ∧ K 73 = M 73 := by
  have e : ∀ c, c ≠ 59 → K c = M c := fun c hc => h.1 c hc
  refine ⟨?_, ?_, e 73 (by decide)⟩
  · funext y; unfold vE; rw [e 73 (by decide), e 74 (by decide), e 76 (by decide)]
  · funext y; unfold vC; rw [e 73 (by decide), e 75 (by decide)]
theorem tlG_sY {M K N : fM} (h : tlG M K) (h2 : sY K N) : tlG M N := ⟨fun c a b => by rw [h2.1 c a, h.1 c a b], fun k a => by rw [h2.2 k (by omega), h.2 k a]⟩
theorem tlP_sY {M K N : fM} {W : Int → pV} {s d a x : Int} (h : tlP M W s d a x K) (h2 : sY K N) : tlP M W s d a x N := by
  obtain ⟨p1, p2, p3, p4, p5⟩ := h
  have hv := vE_sY h2
  refine ⟨tlG_sY p1 h2, p2.eq (fun c a b => h2.1 c (by omega)), by rw [hv.1, hv.2.1]; exact p3, by rw [h2.2 44 (by omega)]; exact p4, by rw [h2.2 44 (by omega)]; exact p5⟩
theorem tlG_gok {M K : fM} {W : Int → pV} (h : tlG M K) (hW : WfM M) (hG : gokM M W) : WfM K ∧ gokM K W := ⟨hW.eq (fun k a b => h.2 k (by omega)) (fun c a b => h.1 c (by omega) (by omega)), hG.eq (h.2 4 (by omega)) (h.1 60 (by decide) (by decide)) (h.1 61 (by decide) (by decide))⟩
set_option maxRecDepth 20000 in
set_option maxHeartbeats 4000000 in
theorem t_X7_worth {X : fX} {M : fM} {e : Nat} {W : Int → pV} {s q : Int} (hrs : rg s) (hq : rg q) (hW : WfM M) (hG : gokM M W) : fC X (e + 81) mX7_worth [.ref (xa X 59), .int (iv s), .int (iv q)] M (QI fun r K => (¬ ((0 ≤ q ∧ q ≤ 1) ∧ someP (M 59 12) (M 65) (M 66) s) ∧ r = -2 ∧ K = M) ∨ (((0 ≤ q ∧ q ≤ 1) ∧ someP (M 59 12) (M 65) (M 66) s) ∧ tlP M W s (M 59 13) 0 0 K ∧ r = if q = 0 then (wrN (vE K) (woM M W) 400).2 else (wrN (vE K) (woM M W) 400).1)) := by
  have hn := hW.1
  have hdm := hW.2.1
  have hA := hW.A
  refine fC.of (L := [_, _, _, _, _, _, _]) (by decide +kernel) rfl (Nat.le_of_ble_eq_true rfl) (fun Z hZ hR => ?_)
  refine f_aload_n hZ dX7_worth_0 rfl ?_
  refine f_iload_n hZ dX7_worth_1 rfl ?_
  refine vX7_325 hZ dX7_worth_2 (t_X7_isSome hrs hn hA) (fun a2 M2 r2 h2 => ?_)
  obtain ⟨e2, h2⟩ := h2
  replace e2 := e2.symm
  subst e2
  refine f_eq (tgt := 18) hZ dX7_worth_5 rfl (by omega) (fun h5 => ?_) (fun h5 => ?_)
  · refine f_bipush hZ dX7_worth_18 ?_
    exact f_retI hZ hR dX7_worth_20 rfl (by omega) (by first | exact Or.inl ⟨fun z => bz_f h2 (by omega) z.2, rfl, rfl⟩ | exact Or.inl ⟨fun z => bz_f h12 (by omega) z.1, rfl, rfl⟩)
  · refine f_iload_n hZ dX7_worth_8 rfl ?_
    refine f_i2l hZ dX7_worth_9 (by omega) ?_
    refine f_lconst0 hZ dX7_worth_10 ?_
    refine f_lconst1 hZ dX7_worth_11 ?_
    refine sX7_113 hZ dX7_worth_12 (t_X7_in (by omega) (by omega) (by omega)) (fun a12 M12 r12 h12 => ?_)
    obtain ⟨e12, h12⟩ := h12
    replace e12 := e12.symm
    subst e12
    refine f_ne (tgt := 21) hZ dX7_worth_15 rfl (by omega) (fun h15 => ?_) (fun h15 => ?_)
    · refine f_aload_n hZ dX7_worth_21 rfl ?_
      refine f_iload_n hZ dX7_worth_22 rfl ?_
      refine f_aload_n hZ dX7_worth_23 rfl ?_
      refine gX7_133 hZ dX7_worth_24 (fun r24 => ?_)
      refine f_iconst hZ dX7_worth_27 ?_
      refine f_iconst hZ dX7_worth_28 ?_
      refine vX7_328 hZ dX7_worth_29 (t_X7_tells (a := 0) (x := 0) hW hG (bz_t h2 (by omega)) hrs hdm (Or.inl rfl) (by omega)) (fun M29 h29 => ?_)
      refine f_iconst hZ dX7_worth_32 ?_
      refine f_istore_n (L' := [_, _, _, _, _, _, _]) hZ dX7_worth_33 rfl rfl ?_
      refine f_iconst hZ dX7_worth_34 ?_
      refine f_istore (L' := [_, _, _, _, _, _, _]) hZ dX7_worth_35 rfl rfl ?_
      refine f_iconst hZ dX7_worth_37 ?_
      refine f_istore (L' := [_, _, _, _, _, _, _]) hZ dX7_worth_38 rfl rfl ?_
      have hq01 : 0 ≤ q ∧ q ≤ 1 := bz_t h12 (by omega)
      have hsm := bz_t h2 (by omega)
      have hnw := h29.2.1
      have hGt := h29.1
      clear h12 h2
      have loop : ∀ (m : Nat) (y : Int) (N : fM), sY M29 N → 1 ≤ y → y + m = 401 → fG X mX7_worth Z 40 [.ref (xa X 59), .int (iv s), .int (iv q), .int (iv (wrN (vE M29) (woM M W) (y - 1).toNat).2), .int (iv (wrN (vE M29) (woM M W) (y - 1).toNat).1), .int (iv y), .null] [] N := by
        intro m
        induction m with
        | zero =>
          intro y N hN h0 hw
          have hi : y = 401 := by omega
          subst hi
          have hrg := wrN_rg (E := vE M29) (f := woM M W) (fun x => woM_rg) ((401 : Int) - 1).toNat
          refine f_iload hZ dX7_worth_40 rfl ?_
          refine f_sipush hZ dX7_worth_42 ?_
          refine f_igt (tgt := 92) hZ dX7_worth_45 rfl (by omega) (by omega) (fun h45 => ?_) (fun h45 => ?_)
          · refine f_iload_n hZ dX7_worth_92 rfl ?_
            refine f_ne (tgt := 100) hZ dX7_worth_93 rfl (by omega) (fun h93 => ?_) (fun h93 => ?_)
            · refine f_iload hZ dX7_worth_100 rfl ?_
              exact f_retI hZ hR dX7_worth_102 rfl (by omega) (by refine Or.inr ⟨⟨hq01, hsm⟩, tlP_sY h29 hN, ?_⟩; rw [(vE_sY hN).1]; first | (rw [if_pos (by omega)]; rfl) | (rw [if_neg (by omega)]; rfl))
            · refine f_iload_n hZ dX7_worth_96 rfl ?_
              refine f_goto (tgt := 102) hZ dX7_worth_97 rfl ?_
              exact f_retI hZ hR dX7_worth_102 rfl (by omega) (by refine Or.inr ⟨⟨hq01, hsm⟩, tlP_sY h29 hN, ?_⟩; rw [(vE_sY hN).1]; first | (rw [if_pos (by omega)]; rfl) | (rw [if_neg (by omega)]; rfl))
          · exfalso; omega
        | succ m ih =>
          intro y N hN h0 hw
          have hrg := wrN_rg (E := vE M29) (f := woM M W) (fun x => woM_rg) (y - 1).toNat
          have hv := vE_z hnw (show 0 ≤ y by omega) (by omega)
          have hv0 := hv.1
          have e73 : N 73 y = M29 73 y := by rw [(vE_sY hN).2.2]
          have hv1 := hv.2.1
          clear hv
          refine f_iload hZ dX7_worth_40 rfl ?_
          refine f_sipush hZ dX7_worth_42 ?_
          refine f_igt (tgt := 92) hZ dX7_worth_45 rfl (by omega) (by omega) (fun h45 => ?_) (fun h45 => ?_)
          · exfalso; omega
          · refine f_aload_n hZ dX7_worth_48 rfl ?_
            refine gX7_53 hZ dX7_worth_49 ?_
            refine f_iload hZ dX7_worth_52 rfl ?_
            refine f_iaload hZ dX7_worth_54 (by first | rfl | exact hC.t1 | exact hC.t2 | exact hC.t3 | exact hC.t4 | exact hC.t5) (by first | rfl | exact hC.l1 | exact hC.l2 | exact hC.l3 | exact hC.l4 | exact hC.l5) (by omega) (by omega) (fun r54 => ?_)
            refine f_iconst hZ dX7_worth_55 ?_
            refine f_ine (tgt := 86) hZ dX7_worth_56 rfl (by omega) (by omega) (fun h56 => ?_) (fun h56 => ?_)
            · refine f_iinc (L' := [_, _, _, _, _, _, _]) hZ dX7_worth_86 rfl rfl ?_
              refine f_goto (tgt := 40) hZ dX7_worth_89 rfl ?_
              refine f_forget (L' := [_, _, _, _, _, _, .null]) ⟨Or.inl rfl, Or.inl rfl, Or.inl rfl, Or.inl rfl, Or.inl rfl, Or.inl rfl, Or.inr rfl, trivial⟩ ?_
              first
                | (have hq0 : M29 73 y = 0 := by omega
                   have hh := ih (y + 1) N hN (by omega) (by omega)
                   rw [wrN_s h0, if_neg (fun z => z.1 (hv0.mpr hq0))] at hh
                   exact hh)
                | (have hq1 : ¬ M29 73 y = 0 := by omega
                   have hlt : ¬ (wrN (vE M29) (woM M W) (y - 1).toNat).1 < a67 := by omega
                   have hh := ih (y + 1) M67 (hN.trans h67.1) (by omega) (by omega)
                   rw [wrN_s h0, if_neg (fun z => hlt (by rw [h67v]; exact z.2))] at hh
                   exact hh)
                | (have hq1 : ¬ M29 73 y = 0 := by omega
                   have hlt : (wrN (vE M29) (woM M W) (y - 1).toNat).1 < a67 := by omega
                   have hh := ih (y + 1) M67 (hN.trans h67.1) (by omega) (by omega)
                   rw [wrN_s h0, if_pos ⟨fun z => hq1 (hv0.mp z), by rw [← h67v]; exact hlt⟩, ← h67v] at hh
                   exact hh)
            · refine f_aload_n hZ dX7_worth_59 rfl ?_
              refine f_iconst hZ dX7_worth_60 ?_
              refine f_iconst hZ dX7_worth_61 ?_
              refine f_iconst hZ dX7_worth_62 ?_
              refine f_iconst hZ dX7_worth_63 ?_
              refine f_iconst hZ dX7_worth_64 ?_
              refine f_iload hZ dX7_worth_65 rfl ?_
              refine vX7_308 hZ dX7_worth_67 ((t_saysW (d := e + 32) (M := M) hG (by rw [hN.2 13 (by omega), hGt.2 13 (by omega)]) (by rw [hN.2 4 (by omega), hGt.2 4 (by omega)]) (by rw [hN.1 60 (by decide), hGt.1 60 (by decide) (by decide)]) (by rw [hN.1 61 (by decide), hGt.1 61 (by decide) (by decide)]) (k := 1) (by omega) (by omega) (by omega) (by omega) (by omega) (by omega)).dep (by omega)) (fun a67 M67 r67 h67 => ?_)
              have h67v : a67 = woM M W y := h67.2
              refine f_istore (L' := [_, _, _, _, _, _, _]) hZ dX7_worth_70 rfl rfl ?_
              refine f_iload hZ dX7_worth_72 rfl ?_
              refine f_iload hZ dX7_worth_74 rfl ?_
              refine f_ile (tgt := 86) hZ dX7_worth_76 rfl (by omega) (by omega) (fun h76 => ?_) (fun h76 => ?_)
              · refine f_iinc (L' := [_, _, _, _, _, _, _]) hZ dX7_worth_86 rfl rfl ?_
                refine f_goto (tgt := 40) hZ dX7_worth_89 rfl ?_
                refine f_forget (L' := [_, _, _, _, _, _, .null]) ⟨Or.inl rfl, Or.inl rfl, Or.inl rfl, Or.inl rfl, Or.inl rfl, Or.inl rfl, Or.inr rfl, trivial⟩ ?_
                first
                  | (have hq0 : M29 73 y = 0 := by omega
                     have hh := ih (y + 1) N hN (by omega) (by omega)
                     rw [wrN_s h0, if_neg (fun z => z.1 (hv0.mpr hq0))] at hh
                     exact hh)
                  | (have hq1 : ¬ M29 73 y = 0 := by omega
                     have hlt : ¬ (wrN (vE M29) (woM M W) (y - 1).toNat).1 < a67 := by omega
                     have hh := ih (y + 1) M67 (hN.trans h67.1) (by omega) (by omega)
                     rw [wrN_s h0, if_neg (fun z => hlt (by rw [h67v]; exact z.2))] at hh
                     exact hh)
                  | (have hq1 : ¬ M29 73 y = 0 := by omega
                     have hlt : (wrN (vE M29) (woM M W) (y - 1).toNat).1 < a67 := by omega
                     have hh := ih (y + 1) M67 (hN.trans h67.1) (by omega) (by omega)
                     rw [wrN_s h0, if_pos ⟨fun z => hq1 (hv0.mp z), by rw [← h67v]; exact hlt⟩, ← h67v] at hh
                     exact hh)
              · refine f_iload hZ dX7_worth_79 rfl ?_
                refine f_istore_n (L' := [_, _, _, _, _, _, _]) hZ dX7_worth_81 rfl rfl ?_
                refine f_iload hZ dX7_worth_82 rfl ?_
                refine f_istore (L' := [_, _, _, _, _, _, _]) hZ dX7_worth_84 rfl rfl ?_
                refine f_iinc (L' := [_, _, _, _, _, _, _]) hZ dX7_worth_86 rfl rfl ?_
                refine f_goto (tgt := 40) hZ dX7_worth_89 rfl ?_
                refine f_forget (L' := [_, _, _, _, _, _, .null]) ⟨Or.inl rfl, Or.inl rfl, Or.inl rfl, Or.inl rfl, Or.inl rfl, Or.inl rfl, Or.inr rfl, trivial⟩ ?_
                first
                  | (have hq0 : M29 73 y = 0 := by omega
                     have hh := ih (y + 1) N hN (by omega) (by omega)
                     rw [wrN_s h0, if_neg (fun z => z.1 (hv0.mpr hq0))] at hh
                     exact hh)
                  | (have hq1 : ¬ M29 73 y = 0 := by omega
                     have hlt : ¬ (wrN (vE M29) (woM M W) (y - 1).toNat).1 < a67 := by omega
                     have hh := ih (y + 1) M67 (hN.trans h67.1) (by omega) (by omega)
                     rw [wrN_s h0, if_neg (fun z => hlt (by rw [h67v]; exact z.2))] at hh
                     exact hh)
                  | (have hq1 : ¬ M29 73 y = 0 := by omega
                     have hlt : (wrN (vE M29) (woM M W) (y - 1).toNat).1 < a67 := by omega
                     have hh := ih (y + 1) M67 (hN.trans h67.1) (by omega) (by omega)
                     rw [wrN_s h0, if_pos ⟨fun z => hq1 (hv0.mp z), by rw [← h67v]; exact hlt⟩, ← h67v] at hh
                     exact hh)
      exact loop 400 1 M29 sY.refl (by omega) (by omega)
    · refine f_bipush hZ dX7_worth_18 ?_
      exact f_retI hZ hR dX7_worth_20 rfl (by omega) (by first | exact Or.inl ⟨fun z => bz_f h2 (by omega) z.2, rfl, rfl⟩ | exact Or.inl ⟨fun z => bz_f h12 (by omega) z.1, rfl, rfl⟩)

theorem jv_or0 (x : Int64) : x ||| (0 : Int64) = x := by
  apply Int64.toBitVec.inj
  rw [Int64.toBitVec_or]
  show x.toBitVec ||| 0#64 = x.toBitVec
  exact BitVec.or_zero
theorem orJ_0 {a : Int} (h : rj a) : orJ a 0 = a := by
  unfold orJ
  rw [jv_0, jv_or0, jv_toInt h]
theorem shlJ_0 (w : Int) : shlJ 0 w = 0 := by
  unfold shlJ
  have h : ∀ k : Int64, ((0 : Int64) <<< k) = 0 := fun k => by
    apply Int64.toBitVec.inj
    rw [Int64.toBitVec_shiftLeft]
    show 0#64 <<< _ = 0#64
    simp
  rw [jv_0, h]; rfl
def sAll : Int := 2305843009213693950
theorem and_sh : ∀ k : Fin 60, andJ sAll (shlJ 1 ((k.val : Int) + 1)) = shlJ 1 ((k.val : Int) + 1) := by decide +kernel
theorem and_or (a b c : Int) : andJ a (orJ b c) = orJ (andJ a b) (andJ a c) := by
  unfold andJ orJ
  rw [jv_of, jv_of, jv_of]
  congr 1
  apply Int64.toBitVec.inj
  simp only [Int64.toBitVec_and, Int64.toBitVec_or]
  ext i
  simp only [BitVec.getElem_and, BitVec.getElem_or]
  cases (jv a).toBitVec[i] <;> simp
theorem and_sb {T : Int → Prop} {i : DecidablePred T} : andJ sAll (@sbZ T i 61) = @sbZ T i 61 :=
  itZ_inv (f := sbF T) (a := 0) (fun _ x => andJ sAll x = x) (by decide) (n := 60) (fun k x k0 k1 hx => by
    unfold sbF
    split
    · rw [and_or, hx]
      have h := and_sh ⟨k.toNat, by omega⟩
      rw [show (((⟨k.toNat, by omega⟩ : Fin 60).val : Nat) : Int) = k by show ((k.toNat : Nat) : Int) = k; omega] at h
      rw [h]
    · exact hx) 60 (by omega) (Int.le_refl _)
theorem jv_m1 (b : Int) (h : rj b) : andJ (-1) b = b := by
  unfold andJ
  have : jv (-1) &&& jv b = jv b := by
    apply Int64.toBitVec.inj
    rw [Int64.toBitVec_and]
    rw [show (jv (-1)).toBitVec = BitVec.allOnes 64 by decide]
    exact BitVec.allOnes_and
  rw [this, jv_toInt h]
/-- what all is, d damps being gone through -/
noncomputable def suM (n s : Int) (P K N : Int → Int) (k : Nat) : Int := if k = 0 then sAll else suN n s P K N k
theorem sbT_rj {T : Int → Prop} : rj (sbT T) := @sbZ_rj T (fun y => Classical.propDecidable (T y)) 61 (by omega)
theorem suM_s {n s : Int} {P K N : Int → Int} (k : Nat) : andJ (suM n s P K N k) (sbT (TD n s P K N k)) = suM n s P K N (k + 1) := by
  unfold suM
  rw [if_neg (show ¬ k + 1 = 0 by omega)]
  cases k with
  | zero =>
    rw [if_pos rfl]
    show andJ sAll (sbT _) = andJ (-1) (sbT _)
    rw [jv_m1 _ sbT_rj]
    exact and_sb
  | succ k => rw [if_neg (by omega)]; rfl
theorem suM_rj {n s : Int} {P K N : Int → Int} (k : Nat) : rj (suM n s P K N k) := by
  unfold suM
  split
  · show rj 2305843009213693950; omega
  · exact suN_rj k
theorem TD_SM {n s q y : Int} {P K N : Int → Int} {pr : Int → Int → Int → Int → Int} (hp : ∀ w j p t, 0 ≤ pr w j p t) : (∃ m, SM n s P (vZ K N q) pr m ∧ m.1 = y) ↔ TD n s P K N q y := by
  constructor
  · rintro ⟨m, h, e⟩
    obtain ⟨m1, g1, g2⟩ := SM_SC hp h
    obtain ⟨m', g3, g4⟩ := emT_pr (pr' := fun _ _ _ _ => 0) g1
    exact ⟨m', g3, by rw [g4.1, g2.1]; exact e⟩
  · rintro ⟨m, h, e⟩
    obtain ⟨m', g1, g2⟩ := emT_pr (pr' := pr) h
    exact ⟨m', SC_SM g1, by rw [g2.1]; exact e⟩
theorem SM_ky {n s : Int} {P : Int → Int} {v : Int → Int → Int} {pr : Int → Int → Int → Int → Int} (h0 : n ≤ 4) (hp : ∀ w j p t, 0 ≤ pr w j p t ∧ pr w j p t ≤ 99) (m : sN) (h : SM n s P v pr m) : kyE m < UT := by
  have := SM_bd h0 hp h
  show m.2.1 * 10000 + m.2.2.2.1 < 2147483647
  omega
theorem tl_told {M K : fM} {W : Int → pV} {s d a x y : Int} (hn : M 59 12 ≤ 4) (h : tlP M W s d a x K) (h0 : 0 ≤ y) (h1 : y ≤ 400) : K 73 y = 1 ↔ TD (M 59 12) s (M 65) (M 63) (M 64) d y := by
  have hL := (h.2.2.1 y h0 h1).1
  have ht := Lst_told (fun m hm => SM_ky hn (fun _ _ _ _ => prM_rg) m hm) hL
  have hv := vE_z h.2.1 h0 h1
  rw [← TD_SM (pr := prM M W a) (fun _ _ _ _ => prM_rg.1), ← ht]
  constructor
  · intro q z
    have := hv.1.mp z
    omega
  · intro q
    exact hv.2.1.resolve_left (fun z => q (hv.1.mpr z))
set_option maxRecDepth 20000 in
set_option maxHeartbeats 4000000 in
theorem t_X7_sure {X : fX} {M : fM} {e : Nat} {W : Int → pV} {s : Int} (hrs : rg s) (hW : WfM M) (hG : gokM M W) : fC X (e + 81) mX7_sure [.ref (xa X 59), .int (iv s)] M (QJ fun r K => (¬ someP (M 59 12) (M 65) (M 66) s ∧ r = -4611686018427387904 ∧ K = M) ∨ (someP (M 59 12) (M 65) (M 66) s ∧ tlG M K ∧ r = suN (M 59 12) s (M 65) (M 63) (M 64) 10)) := by
  have hn := hW.1
  have hdm := hW.2.1
  have hA := hW.A
  refine fC.of (L := [_, _, _, _, _, _, _, _]) (by decide +kernel) rfl (Nat.le_of_ble_eq_true rfl) (fun Z hZ hR => ?_)
  refine f_aload_n hZ dX7_sure_0 rfl ?_
  refine f_iload_n hZ dX7_sure_1 rfl ?_
  refine vX7_325 hZ dX7_sure_2 (t_X7_isSome hrs hn hA) (fun a2 M2 r2 h2 => ?_)
  obtain ⟨e2, h2⟩ := h2
  replace e2 := e2.symm
  subst e2
  refine f_ne (tgt := 12) hZ dX7_sure_5 rfl (by omega) (fun h5 => ?_) (fun h5 => ?_)
  · refine f_ldc2 (v := (2305843009213693950 : Int64)) hZ (2305843009213693950) dX7_sure_12 (tb_in 1196 (by decide +kernel) (by decide +kernel)) (by decide) ?_
    refine f_lstore_n (L' := [_, _, _, _, _, _, _, _]) hZ dX7_sure_15 rfl rfl ?_
    refine f_iconst hZ dX7_sure_16 ?_
    refine f_istore (L' := [_, _, _, _, _, _, _, _]) hZ dX7_sure_17 rfl rfl ?_
    have hsm := bz_t h2 (by omega)
    clear h2
    have loop : ∀ (m : Nat) (k : Nat) (N : fM), tlG M N → k + m = 10 → fG X mX7_sure Z 19 [.ref (xa X 59), .int (iv s), .long (jv (suM (M 59 12) s (M 65) (M 63) (M 64) k)), .null, .int (iv (k : Int)), .null, .null, .null] [] N := by
      intro m
      induction m with
      | zero =>
        intro k N hN hw
        have hi : k = 10 := by omega
        subst hi
        refine f_iload hZ dX7_sure_19 rfl ?_
        refine f_bipush hZ dX7_sure_21 ?_
        refine f_ige (tgt := 81) hZ dX7_sure_23 rfl (by first | omega | exact suM_rj _) (by first | omega | exact suM_rj _) (fun h23 => ?_) (fun h23 => ?_)
        · refine f_lload_n hZ dX7_sure_81 rfl ?_
          exact f_retJ hZ hR dX7_sure_82 rfl (by first | omega | exact suM_rj _) (by exact Or.inr ⟨hsm, hN, rfl⟩)
        · exfalso; omega
      | succ m ih =>
        intro k N hN hw
        have hgk := tlG_gok hN hW hG
        have n12 : N 59 12 = M 59 12 := hN.2 12 (by omega)
        have n65 : N 65 = M 65 := hN.1 65 (by decide) (by decide)
        have n66 : N 66 = M 66 := hN.1 66 (by decide) (by decide)
        have n63 : N 63 = M 63 := hN.1 63 (by decide) (by decide)
        have n64 : N 64 = M 64 := hN.1 64 (by decide) (by decide)
        refine f_iload hZ dX7_sure_19 rfl ?_
        refine f_bipush hZ dX7_sure_21 ?_
        refine f_ige (tgt := 81) hZ dX7_sure_23 rfl (by omega) (by omega) (fun h23 => ?_) (fun h23 => ?_)
        · exfalso; omega
        · refine f_aload_n hZ dX7_sure_26 rfl ?_
          refine f_iload_n hZ dX7_sure_27 rfl ?_
          refine f_iload hZ dX7_sure_28 rfl ?_
          refine f_iconst hZ dX7_sure_30 ?_
          refine f_iconst hZ dX7_sure_31 ?_
          refine vX7_328 hZ dX7_sure_32 (t_X7_tells (M := N) (a := 0) (x := 0) hgk.1 hgk.2 (by rw [n12, n65, n66]; exact hsm) hrs (by omega) (Or.inl rfl) (by omega)) (fun M32 h32 => ?_)
          refine f_lconst0 hZ dX7_sure_35 ?_
          refine f_lstore (L' := [_, _, _, _, _, _, _, _]) hZ dX7_sure_36 rfl rfl ?_
          refine f_iconst hZ dX7_sure_38 ?_
          refine f_istore (L' := [_, _, _, _, _, _, _, _]) hZ dX7_sure_39 rfl rfl ?_
          have in2 : ∀ (m2 : Nat) (y : Int), 1 ≤ y → y + m2 = 61 → fG X mX7_sure Z 41 [.ref (xa X 59), .int (iv s), .long (jv (suM (M 59 12) s (M 65) (M 63) (M 64) k)), .null, .int (iv (k : Int)), .long (jv (sbZ (fun y => M32 73 y = 1) y)), .null, .int (iv y)] [] M32 := by
            intro m2
            induction m2 with
            | zero =>
              intro y h0 hw2
              have hi : y = 61 := by omega
              subst hi
              refine f_iload hZ dX7_sure_41 rfl ?_
              refine f_bipush hZ dX7_sure_43 ?_
              refine f_igt (tgt := 70) hZ dX7_sure_45 rfl (by omega) (by omega) (fun h45 => ?_) (fun h45 => ?_)
              · refine f_lload_n hZ dX7_sure_70 rfl ?_
                refine f_lload hZ dX7_sure_71 rfl ?_
                refine f_land hZ dX7_sure_73 ?_
                refine f_lstore_n (L' := [_, _, _, _, _, _, _, _]) hZ dX7_sure_74 rfl rfl ?_
                refine f_iinc (L' := [_, _, _, _, _, _, _, _]) hZ dX7_sure_75 rfl rfl ?_
                refine f_goto (tgt := 19) hZ dX7_sure_78 rfl ?_
                refine f_forget (L' := [_, _, _, _, _, .null, .null, .null]) ⟨Or.inl rfl, Or.inl rfl, Or.inl rfl, Or.inl rfl, Or.inl rfl, Or.inr rfl, Or.inr rfl, Or.inr rfl, trivial⟩ ?_
                have hb : sbZ (fun y => M32 73 y = 1) 61 = sbT (TD (M 59 12) s (M 65) (M 63) (M 64) (k : Int)) := by
                  unfold sbT
                  refine sbZ_congr (fun y h1 h2 => ?_)
                  have ht := tl_told (by rw [n12]; exact hn.2) h32 (show 0 ≤ y by omega) (by omega)
                  rw [n12, n65, n63, n64] at ht
                  exact ht
                rw [hb, suM_s]
                have hh := ih (k + 1) M32 ⟨fun c a b => by rw [h32.1.1 c a b, hN.1 c a b], fun j a => by rw [h32.1.2 j a, hN.2 j a]⟩ (by omega)
                rw [show ((k + 1 : Nat) : Int) = (k : Int) + 1 by omega] at hh
                exact hh
              · exfalso; omega
            | succ m2 ih2 =>
              intro y h0 hw2
              have hrj := sbZ_rj (fun y => M32 73 y = 1) y h0
              have hv := vE_z h32.2.1 (show 0 ≤ y by omega) (by omega)
              have hv1 := hv.2.1
              have hh := ih2 (y + 1) (by omega) (by omega)
              rw [sbZ_succ _ h0] at hh
              refine f_iload hZ dX7_sure_41 rfl ?_
              refine f_bipush hZ dX7_sure_43 ?_
              refine f_igt (tgt := 70) hZ dX7_sure_45 rfl (by omega) (by omega) (fun h45 => ?_) (fun h45 => ?_)
              · exfalso; omega
              · refine f_lload hZ dX7_sure_48 rfl ?_
                refine f_aload_n hZ dX7_sure_50 rfl ?_
                refine gX7_53 hZ dX7_sure_51 ?_
                refine f_iload hZ dX7_sure_54 rfl ?_
                refine f_iaload hZ dX7_sure_56 (by first | rfl | exact hC.t1 | exact hC.t2 | exact hC.t3 | exact hC.t4 | exact hC.t5) (by first | rfl | exact hC.l1 | exact hC.l2 | exact hC.l3 | exact hC.l4 | exact hC.l5) (by omega) (by omega) (fun r56 => ?_)
                refine f_i2l hZ dX7_sure_57 (by omega) ?_
                refine f_iload hZ dX7_sure_58 rfl ?_
                refine f_lshl hZ dX7_sure_60 ?_
                refine f_lor hZ dX7_sure_61 ?_
                refine f_lstore (L' := [_, _, _, _, _, _, _, _]) hZ dX7_sure_62 rfl rfl ?_
                refine f_iinc (L' := [_, _, _, _, _, _, _, _]) hZ dX7_sure_64 rfl rfl ?_
                refine f_goto (tgt := 41) hZ dX7_sure_67 rfl ?_
                by_cases hq : M32 73 y = 1
                · rw [if_pos hq] at hh
                  rw [hq]
                  exact hh
                · rw [if_neg hq] at hh
                  rw [hv1.resolve_right hq, shlJ_0, orJ_0 hrj]
                  exact hh
          exact in2 60 1 (by omega) (by omega)
    exact loop 10 0 M ⟨fun _ _ _ => rfl, fun _ _ => rfl⟩ (by omega)
  · refine f_ldc2 (v := (-4611686018427387904 : Int64)) hZ (-4611686018427387904) dX7_sure_8 (tb_in 1195 (by decide +kernel) (by decide +kernel)) (by decide) ?_
    exact f_retJ hZ hR dX7_sure_11 rfl (by omega) (by exact Or.inl ⟨fun z => bz_f h2 (by omega) z, rfl, rfl⟩)

