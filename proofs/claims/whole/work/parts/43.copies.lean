/-! copies: behind, off, the farthest -/
def drS (b : Int) (f : Int → Int → Int) (B0 O0 : Int → Int) : Nat → (Int → Int) × (Int → Int) × Int
  | 0 => (B0, O0, 0)
  | k + 1 => (updI (drS b f B0 O0 k).1 ((k : Int) + 1) ((drS b f B0 O0 k).1 ((k : Int).tdiv b) + 1),
      updI (drS b f B0 O0 k).2.1 ((k : Int) + 1) ((drS b f B0 O0 k).2.1 ((k : Int).tdiv b) + f ((k : Int) + 1) ((drS b f B0 O0 k).1 ((k : Int).tdiv b) + 1)),
      max (drS b f B0 O0 k).2.2 ((drS b f B0 O0 k).2.1 ((k : Int).tdiv b) + f ((k : Int) + 1) ((drS b f B0 O0 k).1 ((k : Int).tdiv b) + 1)))
theorem tdb {k b : Int} (h0 : 0 ≤ k) (h1 : 1 ≤ b) : 0 ≤ k.tdiv b ∧ k.tdiv b ≤ k := ⟨Int.tdiv_nonneg h0 (by omega), Int.tdiv_le_self b h0⟩
theorem drS_rg {b : Int} {f : Int → Int → Int} {B0 O0 : Int → Int} (hb : 1 ≤ b) (hf : ∀ k x, 0 ≤ f k x ∧ f k x ≤ 99) (h1 : B0 0 = 0) (h2 : O0 0 = 0) : ∀ k : Nat, (∀ i : Int, 0 ≤ i → i ≤ k → (0 ≤ (drS b f B0 O0 k).1 i ∧ (drS b f B0 O0 k).1 i ≤ i) ∧ (0 ≤ (drS b f B0 O0 k).2.1 i ∧ (drS b f B0 O0 k).2.1 i ≤ 99 * i)) ∧ 0 ≤ (drS b f B0 O0 k).2.2 ∧ (drS b f B0 O0 k).2.2 ≤ 99 * k
  | 0 => by
    refine ⟨fun i a c => ?_, Int.le_refl 0, Int.le_refl 0⟩
    have e : i = 0 := by omega
    subst e
    show (0 ≤ B0 0 ∧ B0 0 ≤ 0) ∧ 0 ≤ O0 0 ∧ O0 0 ≤ 99 * 0
    omega
  | k + 1 => by
    obtain ⟨ih, ih2⟩ := drS_rg hb hf h1 h2 k
    have ht := tdb (k := (k : Int)) (by omega) hb
    have hq := ih ((k : Int).tdiv b) ht.1 ht.2
    have hff := hf ((k : Int) + 1) ((drS b f B0 O0 k).1 ((k : Int).tdiv b) + 1)
    refine ⟨fun i a c => ?_, ?_⟩
    · by_cases hi : i = (k : Int) + 1
      · have e1 : (drS b f B0 O0 (k + 1)).1 i = (drS b f B0 O0 k).1 ((k : Int).tdiv b) + 1 := if_pos hi
        have e2 : (drS b f B0 O0 (k + 1)).2.1 i = (drS b f B0 O0 k).2.1 ((k : Int).tdiv b) + f ((k : Int) + 1) ((drS b f B0 O0 k).1 ((k : Int).tdiv b) + 1) := if_pos hi
        rw [e1, e2]
        omega
      · have e1 : (drS b f B0 O0 (k + 1)).1 i = (drS b f B0 O0 k).1 i := if_neg hi
        have e2 : (drS b f B0 O0 (k + 1)).2.1 i = (drS b f B0 O0 k).2.1 i := if_neg hi
        rw [e1, e2]
        exact ih i a (by omega)
    · have e3 : (drS b f B0 O0 (k + 1)).2.2 = max (drS b f B0 O0 k).2.2 ((drS b f B0 O0 k).2.1 ((k : Int).tdiv b) + f ((k : Int) + 1) ((drS b f B0 O0 k).1 ((k : Int).tdiv b) + 1)) := rfl
      rw [e3]
      omega
theorem drS_cg {b : Int} {f : Int → Int → Int} {B0 O0 B1 O1 : Int → Int} (hb : 1 ≤ b) (h1 : B1 0 = B0 0) (h2 : O1 0 = O0 0) : ∀ k : Nat, (∀ i : Int, 0 ≤ i → i ≤ k → (drS b f B1 O1 k).1 i = (drS b f B0 O0 k).1 i ∧ (drS b f B1 O1 k).2.1 i = (drS b f B0 O0 k).2.1 i) ∧ (drS b f B1 O1 k).2.2 = (drS b f B0 O0 k).2.2
  | 0 => ⟨fun i a c => by rw [show i = 0 by omega]; exact ⟨h1, h2⟩, rfl⟩
  | k + 1 => by
    obtain ⟨ih, ih2⟩ := drS_cg (f := f) hb h1 h2 k
    have ht := tdb (k := (k : Int)) (by omega) hb
    obtain ⟨q1, q2⟩ := ih ((k : Int).tdiv b) ht.1 ht.2
    refine ⟨fun i a c => ?_, ?_⟩
    · by_cases hi : i = (k : Int) + 1
      · exact ⟨(if_pos hi).trans (Eq.trans (by rw [q1]) (if_pos hi).symm), (if_pos hi).trans (Eq.trans (by rw [q1, q2]) (if_pos hi).symm)⟩
      · exact ⟨(if_neg hi).trans ((ih i a (by omega)).1.trans (if_neg hi).symm), (if_neg hi).trans ((ih i a (by omega)).2.trans (if_neg hi).symm)⟩
    · show max (drS b f B1 O1 k).2.2 ((drS b f B1 O1 k).2.1 ((k : Int).tdiv b) + f ((k : Int) + 1) ((drS b f B1 O1 k).1 ((k : Int).tdiv b) + 1)) = max (drS b f B0 O0 k).2.2 ((drS b f B0 O0 k).2.1 ((k : Int).tdiv b) + f ((k : Int) + 1) ((drS b f B0 O0 k).1 ((k : Int).tdiv b) + 1))
      rw [ih2, q1, q2]
def drZ (f : Int → Int → Int) (n b : Int) : Int := (drS b f (fun _ => 0) (fun _ => 0) n.toNat).2.2
theorem drZ_rg {f : Int → Int → Int} {n b : Int} (hb : 1 ≤ b) (hf : ∀ k x, 0 ≤ f k x ∧ f k x ≤ 99) (hn : 0 ≤ n ∧ n ≤ 12) : 0 ≤ drZ f n b ∧ drZ f n b ≤ 1188 := by
  have := (drS_rg (B0 := fun _ => 0) (O0 := fun _ => 0) hb hf rfl rfl n.toNat).2
  unfold drZ
  omega
/-- what a copy's drift is -/
def dfZ (M : fM) (W : Int → pV) (w k x : Int) : Int := bd 99 (W 2 (nmf (M 4 w) (M 1 6) 0 0 k x))
theorem dfZ_rg {M : fM} {W : Int → pV} {w k x : Int} : 0 ≤ dfZ M W w k x ∧ dfZ M W w k x ≤ 99 := bd_rg (by omega)
def drF (M K : fM) : Prop := (∀ c, c ≠ 35 → c ≠ 36 → c ≠ 57 → c ≠ 58 → K c = M c) ∧ K 57 0 = 0 ∧ K 58 0 = 0
theorem drF.trans {M N K : fM} (h : drF M N) (h2 : drF N K) : drF M K := ⟨fun c a b e f => by rw [h2.1 c a b e f, h.1 c a b e f], h2.2⟩
theorem dfZ_eq {M N : fM} {W : Int → pV} {w : Int} (h1 : N 1 = M 1) (h4 : N 4 = M 4) : dfZ N W w = dfZ M W w := by funext k x; unfold dfZ; rw [h1, h4]
/-- the state when copies up to k stand -/
def drI (M : fM) (b : Int) (f : Int → Int → Int) (k : Int) (N : fM) : Prop := (∀ c, c ≠ 35 → c ≠ 36 → c ≠ 57 → c ≠ 58 → N c = M c) ∧ N 58 = (drS b f (M 58) (M 57) k.toNat).1 ∧ N 57 = (drS b f (M 58) (M 57) k.toNat).2.1
theorem drS_m {b : Int} {f : Int → Int → Int} {B0 O0 : Int → Int} {k t : Int} (hk : 1 ≤ k) (ht : t = (k - 1).tdiv b) : (drS b f B0 O0 (k + 1 - 1).toNat).2.2 = max (drS b f B0 O0 (k - 1).toNat).2.2 ((drS b f B0 O0 (k - 1).toNat).2.1 t + f k ((drS b f B0 O0 (k - 1).toNat).1 t + 1)) := by
  subst ht
  rw [show (k + 1 - 1).toNat = (k - 1).toNat + 1 by omega]
  show max _ ((drS b f B0 O0 (k - 1).toNat).2.1 (((k - 1).toNat : Int).tdiv b) + f (((k - 1).toNat : Int) + 1) ((drS b f B0 O0 (k - 1).toNat).1 (((k - 1).toNat : Int).tdiv b) + 1)) = _
  rw [show (((k - 1).toNat : Nat) : Int) = k - 1 by omega, show k - 1 + 1 = k by omega]
theorem drI_step {M N K : fM} {W : Int → pV} {w b k t r p0 p1 p2 p3 p4 p5 : Int} (hN : drI M b (dfZ M W w) (k - 1) N) (hk : 1 ≤ k) (hb : 1 ≤ b) (ht : t = (k - 1).tdiv b) (hM : K 57 = N 57) (hK : ∀ c, c ≠ 36 → K c = nameM (up N 58 k (N 58 t + 1)) p0 p1 p2 p3 p4 p5 c) (hr : r = dfZ M W w k ((drS b (dfZ M W w) (M 58) (M 57) (k - 1).toNat).1 t + 1)) : drI M b (dfZ M W w) (k + 1 - 1) (up K 57 k (N 57 t + r)) := by
  obtain ⟨h1, h2, h3⟩ := hN
  have e0 : (((k - 1).toNat : Nat) : Int) = k - 1 := by omega
  have e1 : (k + 1 - 1).toNat = (k - 1).toNat + 1 := by omega
  refine ⟨fun c a b e f => by rw [up_ne e, hK c b, nameM_ne a, up_ne f, h1 c a b e f], ?_, ?_⟩
  · rw [up_ne (by decide), hK 58 (by decide), nameM_ne (by decide), e1]
    show up N 58 k (N 58 t + 1) 58 = updI (drS b (dfZ M W w) (M 58) (M 57) (k - 1).toNat).1 (((k - 1).toNat : Int) + 1) ((drS b (dfZ M W w) (M 58) (M 57) (k - 1).toNat).1 (((k - 1).toNat : Int).tdiv b) + 1)
    rw [up_ro, ro_eq, e0, show k - 1 + 1 = k by omega, ← ht, h2]
  · rw [e1]
    show up K 57 k (N 57 t + r) 57 = updI (drS b (dfZ M W w) (M 58) (M 57) (k - 1).toNat).2.1 (((k - 1).toNat : Int) + 1) ((drS b (dfZ M W w) (M 58) (M 57) (k - 1).toNat).2.1 (((k - 1).toNat : Int).tdiv b) + dfZ M W w (((k - 1).toNat : Int) + 1) ((drS b (dfZ M W w) (M 58) (M 57) (k - 1).toNat).1 (((k - 1).toNat : Int).tdiv b) + 1))
    rw [up_ro, ro_eq, e0, show k - 1 + 1 = k by omega, ← ht, hM, h3, hr]
theorem drI.fin {M N : fM} {W : Int → pV} {w b n : Int} (hN : drI M b (dfZ M W w) (n + 1 - 1) N) (hb : 1 ≤ b) (h58 : M 58 0 = 0) (h57 : M 57 0 = 0) (hn : 0 ≤ n) : drF M N ∧ (drS b (dfZ M W w) (M 58) (M 57) (n + 1 - 1).toNat).2.2 = drZ (dfZ M W w) n b := by
  obtain ⟨h1, h2, h3⟩ := hN
  have hr := (drS_rg (f := dfZ M W w) hb (fun _ _ => dfZ_rg) h58 h57 (n + 1 - 1).toNat).1 0 (by omega) (by omega)
  refine ⟨⟨h1, by rw [h3]; omega, by rw [h2]; omega⟩, ?_⟩
  rw [show n + 1 - 1 = n by omega]
  exact (drS_cg hb h58 h57 n.toNat).2
set_option maxRecDepth 20000 in
set_option maxHeartbeats 4000000 in
theorem t_X6_farthestOff {X : fX} {M : fM} {d : Nat} {W : Int → pV} {w n b : Int} (hw0 : 0 ≤ w ∧ w < M 1 5) (hn0 : 1 ≤ n ∧ n ≤ 12) (hb : 1 ≤ b ∧ b ≤ 4) (h57 : M 57 0 = 0) (h58 : M 58 0 = 0) (hgk : gOk M W) : fC X (d + 2) mX6_farthestOff [.ref (xa X 0), .int (iv w), .int (iv n), .int (iv b)] M (QI fun r K => drF M K ∧ r = drZ (dfZ M W w) n b) := by
  obtain ⟨h1, h2, h3, h4⟩ := hgk
  have hn := h1.n
  have hA := h1.A
  have hdm : 0 ≤ M 1 6 ∧ M 1 6 ≤ 9 := h1.2.1
  refine fC.of (L := [_, _, _, _, _, _, _]) (by decide +kernel) rfl (Nat.le_of_ble_eq_true rfl) (fun Z hZ hR => ?_)
  have loop : ∀ (m : Nat) (k : Int) (N : fM), 1 ≤ k → k + m = n + 1 → drI M b (dfZ M W w) (k - 1) N → fG X mX6_farthestOff Z 6 [.ref (xa X 0), .int (iv w), .int (iv n), .int (iv b), .int (iv (drS b (dfZ M W w) (M 58) (M 57) (k - 1).toNat).2.2), .int (iv k), .null] [] N := by
    intro m
    induction m with
    | zero =>
      intro k N hk1 hkm hN
      have hdr := drS_rg (f := dfZ M W w) hb.1 (fun _ _ => dfZ_rg) h58 h57 (k - 1).toNat
      refine f_iload hZ dX6_farthestOff_6 rfl ?_
      refine f_iload_n hZ dX6_farthestOff_8 rfl ?_
      refine f_igt (tgt := 133) hZ dX6_farthestOff_9 rfl (by omega) (by omega) (fun h9 => ?_) (fun h9 => ?_)
      · refine f_iload hZ dX6_farthestOff_133 rfl ?_
        exact f_retI hZ hR dX6_farthestOff_135 rfl (by omega) (by rw [show k = n + 1 by omega] at hN ⊢; exact drI.fin hN hb.1 h58 h57 (by omega))
      · exfalso; omega
    | succ m ih =>
      intro k N hk1 hkm hN
      have hN1 : N 1 = M 1 := hN.1 1 (by decide) (by decide) (by decide) (by decide)
      have hN4 : N 4 = M 4 := hN.1 4 (by decide) (by decide) (by decide) (by decide)
      have hN19 : N 19 = M 19 := hN.1 19 (by decide) (by decide) (by decide) (by decide)
      have hdr := drS_rg (f := dfZ M W w) hb.1 (fun _ _ => dfZ_rg) h58 h57 (k - 1).toNat
      have htd := tdb (k := k - 1) (b := b) (by omega) hb.1
      have hqa := hA w hw0.1 hw0.2
      refine f_iload hZ dX6_farthestOff_6 rfl ?_
      refine f_iload_n hZ dX6_farthestOff_8 rfl ?_
      refine f_igt (tgt := 133) hZ dX6_farthestOff_9 rfl (by first | omega | exact rg_tdiv (by omega) (by omega)) (by first | omega | exact rg_tdiv (by omega) (by omega)) (fun h9 => ?_) (fun h9 => ?_)
      · exfalso; omega
      · refine f_iload hZ dX6_farthestOff_12 rfl ?_
        refine f_bipush hZ dX6_farthestOff_14 ?_
        refine f_igt (tgt := 133) hZ dX6_farthestOff_16 rfl (by first | omega | exact rg_tdiv (by omega) (by omega)) (by first | omega | exact rg_tdiv (by omega) (by omega)) (fun h16 => ?_) (fun h16 => ?_)
        · exfalso; omega
        · refine f_iload_n hZ dX6_farthestOff_19 rfl ?_
          refine f_le (tgt := 133) hZ dX6_farthestOff_20 rfl (by first | omega | exact rg_tdiv (by omega) (by omega)) (fun h20 => ?_) (fun h20 => ?_)
          · exfalso; omega
          · refine f_iload hZ dX6_farthestOff_23 rfl ?_
            refine f_iconst hZ dX6_farthestOff_25 ?_
            refine f_isub hZ dX6_farthestOff_26 ?_
            refine f_iload_n hZ dX6_farthestOff_27 rfl ?_
            refine f_idiv hZ dX6_farthestOff_28 (by first | omega | exact rg_tdiv (by omega) (by omega)) (by first | omega | exact rg_tdiv (by omega) (by omega)) (by first | omega | exact rg_tdiv (by omega) (by omega)) (by first | omega | exact rg_tdiv (by omega) (by omega)) ?_
            refine f_nm (fun t6 et6 => ?_)
            refine f_istore (L' := [_, _, _, _, _, _, _]) hZ dX6_farthestOff_29 rfl rfl ?_
            have hfr := hdr.1 t6 (by omega) (by omega)
            have hn58 : N 58 t6 = (drS b (dfZ M W w) (M 58) (M 57) (k - 1).toNat).1 t6 := by rw [hN.2.1]
            have hn57 : N 57 t6 = (drS b (dfZ M W w) (M 58) (M 57) (k - 1).toNat).2.1 t6 := by rw [hN.2.2]
            refine f_aload_n hZ dX6_farthestOff_31 rfl ?_
            refine gX6_49 hZ dX6_farthestOff_32 ?_
            refine f_iload hZ dX6_farthestOff_35 rfl ?_
            refine f_aload_n hZ dX6_farthestOff_37 rfl ?_
            refine gX6_49 hZ dX6_farthestOff_38 ?_
            refine f_iload hZ dX6_farthestOff_41 rfl ?_
            refine f_iaload hZ dX6_farthestOff_43 (by first | rfl | exact hC.t1 | exact hC.t2 | exact hC.t3 | exact hC.t4 | exact hC.t5) (by first | rfl | exact hC.l1 | exact hC.l2 | exact hC.l3 | exact hC.l4 | exact hC.l5) (by first | omega | exact rg_tdiv (by omega) (by omega)) (by first | omega | exact rg_tdiv (by omega) (by omega)) (fun r43 => ?_)
            try simp only [up_app, and_self, if_true, hN1, hN4, hN19, nameM_ne (show (1 : Nat) ≠ 35 by decide), nameM_ne (show (4 : Nat) ≠ 35 by decide), nameM_ne (show (19 : Nat) ≠ 35 by decide), nameM_ne (show (57 : Nat) ≠ 35 by decide), nameM_ne (show (58 : Nat) ≠ 35 by decide), up_ne (show (1 : Nat) ≠ 58 by decide), up_ne (show (4 : Nat) ≠ 58 by decide), up_ne (show (19 : Nat) ≠ 58 by decide), up_ne (show (57 : Nat) ≠ 58 by decide)] at r43 ⊢
            refine f_iconst hZ dX6_farthestOff_44 ?_
            refine f_iadd hZ dX6_farthestOff_45 ?_
            refine f_iastore hZ dX6_farthestOff_46 (by first | rfl | exact hC.t1 | exact hC.t2 | exact hC.t3 | exact hC.t4 | exact hC.t5) (by first | rfl | exact hC.l1 | exact hC.l2 | exact hC.l3 | exact hC.l4 | exact hC.l5) (by first | omega | exact rg_tdiv (by omega) (by omega)) (by first | omega | exact rg_tdiv (by omega) (by omega)) (by first | omega | exact rg_tdiv (by omega) (by omega)) ?_
            refine f_aload_n hZ dX6_farthestOff_47 rfl ?_
            refine gX6_25 hZ dX6_farthestOff_48 ?_
            refine f_aload_n hZ dX6_farthestOff_51 rfl ?_
            refine gX6_10 hZ dX6_farthestOff_52 ?_
            refine gX6_79_1 hZ dX6_farthestOff_55 ?_
            refine f_iload_n hZ dX6_farthestOff_58 rfl ?_
            refine f_iaload hZ dX6_farthestOff_59 (by first | rfl | exact hC.t1 | exact hC.t2 | exact hC.t3 | exact hC.t4 | exact hC.t5) (by first | rfl | exact hC.l1 | exact hC.l2 | exact hC.l3 | exact hC.l4 | exact hC.l5) (by first | omega | exact rg_tdiv (by omega) (by omega)) (by first | omega | exact rg_tdiv (by omega) (by omega)) (fun r59 => ?_)
            try simp only [up_app, and_self, if_true, hN1, hN4, hN19, nameM_ne (show (1 : Nat) ≠ 35 by decide), nameM_ne (show (4 : Nat) ≠ 35 by decide), nameM_ne (show (19 : Nat) ≠ 35 by decide), nameM_ne (show (57 : Nat) ≠ 35 by decide), nameM_ne (show (58 : Nat) ≠ 35 by decide), up_ne (show (1 : Nat) ≠ 58 by decide), up_ne (show (4 : Nat) ≠ 58 by decide), up_ne (show (19 : Nat) ≠ 58 by decide), up_ne (show (57 : Nat) ≠ 58 by decide)] at r59 ⊢
            refine f_aload_n hZ dX6_farthestOff_60 rfl ?_
            refine gX6_10 hZ dX6_farthestOff_61 ?_
            refine gX6_91_1 hZ dX6_farthestOff_64 (fun r64 => ?_)
            try simp only [up_app, and_self, if_true, hN1, hN4, hN19, nameM_ne (show (1 : Nat) ≠ 35 by decide), nameM_ne (show (4 : Nat) ≠ 35 by decide), nameM_ne (show (19 : Nat) ≠ 35 by decide), nameM_ne (show (57 : Nat) ≠ 35 by decide), nameM_ne (show (58 : Nat) ≠ 35 by decide), up_ne (show (1 : Nat) ≠ 58 by decide), up_ne (show (4 : Nat) ≠ 58 by decide), up_ne (show (19 : Nat) ≠ 58 by decide), up_ne (show (57 : Nat) ≠ 58 by decide)] at r64 ⊢
            refine f_iconst hZ dX6_farthestOff_67 ?_
            refine f_iconst hZ dX6_farthestOff_68 ?_
            refine f_iload hZ dX6_farthestOff_69 rfl ?_
            refine f_aload_n hZ dX6_farthestOff_71 rfl ?_
            refine gX6_49 hZ dX6_farthestOff_72 ?_
            refine f_iload hZ dX6_farthestOff_75 rfl ?_
            refine f_iaload hZ dX6_farthestOff_77 (by first | rfl | exact hC.t1 | exact hC.t2 | exact hC.t3 | exact hC.t4 | exact hC.t5) (by first | rfl | exact hC.l1 | exact hC.l2 | exact hC.l3 | exact hC.l4 | exact hC.l5) (by first | omega | exact rg_tdiv (by omega) (by omega)) (by first | omega | exact rg_tdiv (by omega) (by omega)) (fun r77 => ?_)
            try simp only [up_app, and_self, if_true, hN1, hN4, hN19, nameM_ne (show (1 : Nat) ≠ 35 by decide), nameM_ne (show (4 : Nat) ≠ 35 by decide), nameM_ne (show (19 : Nat) ≠ 35 by decide), nameM_ne (show (57 : Nat) ≠ 35 by decide), nameM_ne (show (58 : Nat) ≠ 35 by decide), up_ne (show (1 : Nat) ≠ 58 by decide), up_ne (show (4 : Nat) ≠ 58 by decide), up_ne (show (19 : Nat) ≠ 58 by decide), up_ne (show (57 : Nat) ≠ 58 by decide)] at r77 ⊢
            refine vX6_162 hZ dX6_farthestOff_78 (t_X5_name (by omega) (by omega) (by omega) (by omega) (by omega) (by omega)) (fun M78 h78 => ?_)
            subst h78
            refine f_aload_n hZ dX6_farthestOff_81 rfl ?_
            refine gX6_45 hZ dX6_farthestOff_82 ?_
            refine f_iload hZ dX6_farthestOff_85 rfl ?_
            refine f_aload_n hZ dX6_farthestOff_87 rfl ?_
            refine gX6_45 hZ dX6_farthestOff_88 ?_
            refine f_iload hZ dX6_farthestOff_91 rfl ?_
            refine f_iaload hZ dX6_farthestOff_93 (by first | rfl | exact hC.t1 | exact hC.t2 | exact hC.t3 | exact hC.t4 | exact hC.t5) (by first | rfl | exact hC.l1 | exact hC.l2 | exact hC.l3 | exact hC.l4 | exact hC.l5) (by first | omega | exact rg_tdiv (by omega) (by omega)) (by first | omega | exact rg_tdiv (by omega) (by omega)) (fun r93 => ?_)
            try simp only [up_app, and_self, if_true, hN1, hN4, hN19, nameM_ne (show (1 : Nat) ≠ 35 by decide), nameM_ne (show (4 : Nat) ≠ 35 by decide), nameM_ne (show (19 : Nat) ≠ 35 by decide), nameM_ne (show (57 : Nat) ≠ 35 by decide), nameM_ne (show (58 : Nat) ≠ 35 by decide), up_ne (show (1 : Nat) ≠ 58 by decide), up_ne (show (4 : Nat) ≠ 58 by decide), up_ne (show (19 : Nat) ≠ 58 by decide), up_ne (show (57 : Nat) ≠ 58 by decide)] at r93 ⊢
            refine f_aload_n hZ dX6_farthestOff_94 rfl ?_
            refine gX6_25 hZ dX6_farthestOff_95 ?_
            refine f_aload_n hZ dX6_farthestOff_98 rfl ?_
            refine gX6_10 hZ dX6_farthestOff_99 ?_
            refine gX6_124_1 hZ dX6_farthestOff_102 (fun r102 => ?_)
            try simp only [up_app, and_self, if_true, hN1, hN4, hN19, nameM_ne (show (1 : Nat) ≠ 35 by decide), nameM_ne (show (4 : Nat) ≠ 35 by decide), nameM_ne (show (19 : Nat) ≠ 35 by decide), nameM_ne (show (57 : Nat) ≠ 35 by decide), nameM_ne (show (58 : Nat) ≠ 35 by decide), up_ne (show (1 : Nat) ≠ 58 by decide), up_ne (show (4 : Nat) ≠ 58 by decide), up_ne (show (19 : Nat) ≠ 58 by decide), up_ne (show (57 : Nat) ≠ 58 by decide)] at r102 ⊢
            refine f_iconst hZ dX6_farthestOff_105 ?_
            refine f_bipush hZ dX6_farthestOff_106 ?_
            refine vX6_166 hZ dX6_farthestOff_108 (t_X5_bounded (v := W 2) (by simp only [up_app, and_self, if_true, hN1, hN4, hN19, nameM_ne (show (1 : Nat) ≠ 35 by decide), nameM_ne (show (4 : Nat) ≠ 35 by decide), nameM_ne (show (19 : Nat) ≠ 35 by decide), nameM_ne (show (57 : Nat) ≠ 35 by decide), nameM_ne (show (58 : Nat) ≠ 35 by decide), up_ne (show (1 : Nat) ≠ 58 by decide), up_ne (show (4 : Nat) ≠ 58 by decide), up_ne (show (19 : Nat) ≠ 58 by decide), up_ne (show (57 : Nat) ≠ 58 by decide)]; omega) (by simp only [up_app, and_self, if_true, hN1, hN4, hN19, nameM_ne (show (1 : Nat) ≠ 35 by decide), nameM_ne (show (4 : Nat) ≠ 35 by decide), nameM_ne (show (19 : Nat) ≠ 35 by decide), nameM_ne (show (57 : Nat) ≠ 35 by decide), nameM_ne (show (58 : Nat) ≠ 35 by decide), up_ne (show (1 : Nat) ≠ 58 by decide), up_ne (show (4 : Nat) ≠ 58 by decide), up_ne (show (19 : Nat) ≠ 58 by decide), up_ne (show (57 : Nat) ≠ 58 by decide)]; omega) (by omega) (by omega) (TXs_congr (by omega) (fun c c1 c2 => by rw [nameM_ne (by omega), up_ne (by omega), hN.1 c (by omega) (by omega) (by omega) (by omega)]) (h4 2 (by omega) (by omega)))) (fun a108 M108 r108 h108 => ?_)
            obtain ⟨h108, e108⟩ := h108
            have e108 : a108 = dfZ M W w k ((drS b (dfZ M W w) (M 58) (M 57) (k - 1).toNat).1 t6 + 1) := by rw [e108, ← hn58]; exact congrArg (bd 99) (TXs_nm (h4 2 (by omega) (by omega)) (fun i i0 i1 => nameM_35 i0 i1))
            have hdf := dfZ_rg (M := M) (W := W) (w := w) (k := k) (x := (drS b (dfZ M W w) (M 58) (M 57) (k - 1).toNat).1 t6 + 1)
            have hM57 : M108 57 = N 57 := by rw [h108 57 (by decide), nameM_ne (by decide), up_ne (by decide)]
            refine f_iadd hZ dX6_farthestOff_111 ?_
            refine f_iastore hZ dX6_farthestOff_112 (by first | rfl | exact hC.t1 | exact hC.t2 | exact hC.t3 | exact hC.t4 | exact hC.t5) (by first | rfl | exact hC.l1 | exact hC.l2 | exact hC.l3 | exact hC.l4 | exact hC.l5) (by first | omega | exact rg_tdiv (by omega) (by omega)) (by first | omega | exact rg_tdiv (by omega) (by omega)) (by first | omega | exact rg_tdiv (by omega) (by omega)) ?_
            refine f_iload hZ dX6_farthestOff_113 rfl ?_
            refine f_aload_n hZ dX6_farthestOff_115 rfl ?_
            refine gX6_45 hZ dX6_farthestOff_116 ?_
            refine f_iload hZ dX6_farthestOff_119 rfl ?_
            refine f_iaload hZ dX6_farthestOff_121 (by first | rfl | exact hC.t1 | exact hC.t2 | exact hC.t3 | exact hC.t4 | exact hC.t5) (by first | rfl | exact hC.l1 | exact hC.l2 | exact hC.l3 | exact hC.l4 | exact hC.l5) (by first | omega | exact rg_tdiv (by omega) (by omega)) (by first | omega | exact rg_tdiv (by omega) (by omega)) (fun r121 => ?_)
            try simp only [up_app, and_self, if_true, hN1, hN4, hN19, nameM_ne (show (1 : Nat) ≠ 35 by decide), nameM_ne (show (4 : Nat) ≠ 35 by decide), nameM_ne (show (19 : Nat) ≠ 35 by decide), nameM_ne (show (57 : Nat) ≠ 35 by decide), nameM_ne (show (58 : Nat) ≠ 35 by decide), up_ne (show (1 : Nat) ≠ 58 by decide), up_ne (show (4 : Nat) ≠ 58 by decide), up_ne (show (19 : Nat) ≠ 58 by decide), up_ne (show (57 : Nat) ≠ 58 by decide)] at r121 ⊢
            refine f_max hZ dX6_farthestOff_122 wk_X6_183 (by first | omega | exact rg_tdiv (by omega) (by omega)) (by first | omega | exact rg_tdiv (by omega) (by omega)) (Nat.le_of_ble_eq_true rfl) ?_
            refine f_istore (L' := [_, _, _, _, _, _, _]) hZ dX6_farthestOff_125 rfl rfl ?_
            refine f_iinc (L' := [_, _, _, _, _, _, _]) hZ dX6_farthestOff_127 rfl rfl ?_
            refine f_goto (tgt := 6) hZ dX6_farthestOff_130 rfl ?_
            refine f_forget (L' := [_, _, _, _, _, _, .null]) ⟨Or.inl rfl, Or.inl rfl, Or.inl rfl, Or.inl rfl, Or.inl rfl, Or.inl rfl, Or.inr rfl, trivial⟩ ?_
            have hh := ih (k + 1) (up M108 57 k (N 57 t6 + a108)) (by omega) (by omega) (drI_step hN hk1 hb.1 et6 hM57 h108 (by rw [e108]))
            rw [drS_m hk1 et6] at hh
            rw [hn57, e108] at *
            exact hh
  refine f_iconst hZ dX6_farthestOff_0 ?_
  refine f_istore (L' := [_, _, _, _, _, _, _]) hZ dX6_farthestOff_1 rfl rfl ?_
  refine f_iconst hZ dX6_farthestOff_3 ?_
  refine f_istore (L' := [_, _, _, _, _, _, _]) hZ dX6_farthestOff_4 rfl rfl ?_
  have hh := loop n.toNat 1 M (by omega) (by omega) ⟨fun _ _ _ _ _ => rfl, rfl, rfl⟩
  exact hh

set_option maxRecDepth 20000 in
set_option maxHeartbeats 4000000 in
theorem t_X6_copies {X : fX} {M : fM} {d : Nat} {W : Int → pV} {w n b : Int} (hw0 : rg w) (hn0 : rg n) (hb : rg b) (h57 : M 57 0 = 0) (h58 : M 58 0 = 0) (hgk : gOk M W) : fC X (d + 3) mX6_copies [.ref (xa X 0), .int (iv w), .int (iv n), .int (iv b)] M (QI fun r K => (¬ ((0 ≤ w ∧ w < M 1 5) ∧ (1 ≤ n ∧ n ≤ 12) ∧ (1 ≤ b ∧ b ≤ 4)) ∧ r = -2 ∧ K = M) ∨ (((0 ≤ w ∧ w < M 1 5) ∧ (1 ≤ n ∧ n ≤ 12) ∧ (1 ≤ b ∧ b ≤ 4)) ∧ drF M K ∧ r = drZ (dfZ M W w) n b)) := by
  refine fC.of (L := [_, _, _, _]) (by decide +kernel) rfl (Nat.le_of_ble_eq_true rfl) (fun Z hZ hR => ?_)
  have hn := hgk.1.n
  refine f_aload_n hZ dX6_copies_0 rfl ?_
  refine gX6_10 hZ dX6_copies_1 ?_
  refine f_iload_n hZ dX6_copies_4 rfl ?_
  refine vX6_75 hZ dX6_copies_5 (by first | exact hC | exact isC1 | exact isC7 | exact isC13) (t_X0_has isC1 (by omega) hn) (fun a5 M5 r5 h5 => ?_)
  try simp only [Nat.reduceAdd] at h5
  obtain ⟨e5, h5⟩ := h5
  replace e5 := e5.symm
  subst e5
  refine f_eq (tgt := 30) hZ dX6_copies_8 rfl (by first | omega | (have := drZ_rg (f := dfZ M W w) (n := n) (b := b) (by omega) (fun _ _ => dfZ_rg) (by omega); omega)) (fun h8 => ?_) (fun h8 => ?_)
  · refine f_bipush hZ dX6_copies_30 ?_
    exact f_retI hZ hR dX6_copies_32 rfl (by first | omega | (have := drZ_rg (f := dfZ M W w) (n := n) (b := b) (by omega) (fun _ _ => dfZ_rg) (by omega); omega)) (by first | exact Or.inl ⟨fun q => by omega, rfl, rfl⟩ | exact Or.inr ⟨⟨by omega, by omega, by omega⟩, h37⟩)
  · refine f_iload_n hZ dX6_copies_11 rfl ?_
    refine f_iconst hZ dX6_copies_12 ?_
    refine f_bipush hZ dX6_copies_13 ?_
    refine sX6_56 hZ dX6_copies_15 (t_X6_within (by omega) (by omega) (by omega)) (fun a15 M15 r15 h15 => ?_)
    obtain ⟨e15, h15⟩ := h15
    replace e15 := e15.symm
    subst e15
    refine f_eq (tgt := 30) hZ dX6_copies_18 rfl (by first | omega | (have := drZ_rg (f := dfZ M W w) (n := n) (b := b) (by omega) (fun _ _ => dfZ_rg) (by omega); omega)) (fun h18 => ?_) (fun h18 => ?_)
    · refine f_bipush hZ dX6_copies_30 ?_
      exact f_retI hZ hR dX6_copies_32 rfl (by first | omega | (have := drZ_rg (f := dfZ M W w) (n := n) (b := b) (by omega) (fun _ _ => dfZ_rg) (by omega); omega)) (by first | exact Or.inl ⟨fun q => by omega, rfl, rfl⟩ | exact Or.inr ⟨⟨by omega, by omega, by omega⟩, h37⟩)
    · refine f_iload_n hZ dX6_copies_21 rfl ?_
      refine f_iconst hZ dX6_copies_22 ?_
      refine f_iconst hZ dX6_copies_23 ?_
      refine sX6_56 hZ dX6_copies_24 (t_X6_within (by omega) (by omega) (by omega)) (fun a24 M24 r24 h24 => ?_)
      obtain ⟨e24, h24⟩ := h24
      replace e24 := e24.symm
      subst e24
      refine f_ne (tgt := 33) hZ dX6_copies_27 rfl (by first | omega | (have := drZ_rg (f := dfZ M W w) (n := n) (b := b) (by omega) (fun _ _ => dfZ_rg) (by omega); omega)) (fun h27 => ?_) (fun h27 => ?_)
      · refine f_aload_n hZ dX6_copies_33 rfl ?_
        refine f_iload_n hZ dX6_copies_34 rfl ?_
        refine f_iload_n hZ dX6_copies_35 rfl ?_
        refine f_iload_n hZ dX6_copies_36 rfl ?_
        refine vX6_180 hZ dX6_copies_37 (t_X6_farthestOff (W := W) (by omega) (by omega) (by omega) h57 h58 hgk) (fun a37 M37 r37 h37 => ?_)
        exact f_retI hZ hR dX6_copies_40 rfl (by first | omega | (have := drZ_rg (f := dfZ M W w) (n := n) (b := b) (by omega) (fun _ _ => dfZ_rg) (by omega); omega)) (by first | exact Or.inl ⟨fun q => by omega, rfl, rfl⟩ | exact Or.inr ⟨⟨by omega, by omega, by omega⟩, h37⟩)
      · refine f_bipush hZ dX6_copies_30 ?_
        exact f_retI hZ hR dX6_copies_32 rfl (by first | omega | (have := drZ_rg (f := dfZ M W w) (n := n) (b := b) (by omega) (fun _ _ => dfZ_rg) (by omega); omega)) (by first | exact Or.inl ⟨fun q => by omega, rfl, rfl⟩ | exact Or.inr ⟨⟨by omega, by omega, by omega⟩, h37⟩)

def bsN (F : Int → Int) : Nat → Int × Int
  | 0 => (1, F 1)
  | k + 1 => if F ((k : Int) + 2) < (bsN F k).2 then ((k : Int) + 2, F ((k : Int) + 2)) else bsN F k
theorem bsN_rg {F : Int → Int} (hF : ∀ b, 1 ≤ b → b ≤ 4 → 0 ≤ F b ∧ F b ≤ 1188) : ∀ k : Nat, k ≤ 3 → (1 ≤ (bsN F k).1 ∧ (bsN F k).1 ≤ 4) ∧ 0 ≤ (bsN F k).2 ∧ (bsN F k).2 ≤ 1188
  | 0, _ => by have := hF 1 (by omega) (by omega); show (1 ≤ (1 : Int) ∧ (1 : Int) ≤ 4) ∧ 0 ≤ F 1 ∧ F 1 ≤ 1188; omega
  | k + 1, h => by
    have ih := bsN_rg hF k (by omega)
    have := hF ((k : Int) + 2) (by omega) (by omega)
    unfold bsN
    split
    · show (1 ≤ (k : Int) + 2 ∧ (k : Int) + 2 ≤ 4) ∧ 0 ≤ F ((k : Int) + 2) ∧ F ((k : Int) + 2) ≤ 1188
      omega
    · exact ih
theorem bsN_s {F : Int → Int} {b : Int} (h : 2 ≤ b) : bsN F (b + 1 - 2).toNat = if F b < (bsN F (b - 2).toNat).2 then (b, F b) else bsN F (b - 2).toNat := by
  rw [show (b + 1 - 2).toNat = (b - 2).toNat + 1 by omega]
  show (if F (((b - 2).toNat : Int) + 2) < (bsN F (b - 2).toNat).2 then (((b - 2).toNat : Int) + 2, F (((b - 2).toNat : Int) + 2)) else bsN F (b - 2).toNat) = _
  rw [show ((b - 2).toNat : Int) + 2 = b by omega]
set_option maxRecDepth 20000 in
set_option maxHeartbeats 4000000 in
theorem t_X6_best {X : fX} {M : fM} {d : Nat} {W : Int → pV} {w n q : Int} (hw0 : rg w) (hn0 : rg n) (hq : rg q) (h57 : M 57 0 = 0) (h58 : M 58 0 = 0) (hgk : gOk M W) : fC X (d + 3) mX6_best [.ref (xa X 0), .int (iv w), .int (iv n), .int (iv q)] M (QI fun r K => (¬ ((0 ≤ w ∧ w < M 1 5) ∧ (1 ≤ n ∧ n ≤ 12) ∧ (0 ≤ q ∧ q ≤ 1)) ∧ r = -2 ∧ K = M) ∨ (((0 ≤ w ∧ w < M 1 5) ∧ (1 ≤ n ∧ n ≤ 12) ∧ (0 ≤ q ∧ q ≤ 1)) ∧ drF M K ∧ r = if q = 0 then (bsN (drZ (dfZ M W w) n) 3).1 else (bsN (drZ (dfZ M W w) n) 3).2)) := by
  refine fC.of (L := [_, _, _, _, _, _, _, _]) (by decide +kernel) rfl (Nat.le_of_ble_eq_true rfl) (fun Z hZ hR => ?_)
  have hn := hgk.1.n
  refine f_aload_n hZ dX6_best_0 rfl ?_
  refine gX6_10 hZ dX6_best_1 ?_
  refine f_iload_n hZ dX6_best_4 rfl ?_
  refine vX6_75 hZ dX6_best_5 (by first | exact hC | exact isC1 | exact isC7 | exact isC13) (t_X0_has isC1 (by omega) hn) (fun a5 M5 r5 h5 => ?_)
  try simp only [Nat.reduceAdd] at h5
  obtain ⟨e5, h5⟩ := h5
  replace e5 := e5.symm
  subst e5
  refine f_eq (tgt := 30) hZ dX6_best_8 rfl (by omega) (fun h8 => ?_) (fun h8 => ?_)
  · refine f_bipush hZ dX6_best_30 ?_
    exact f_retI hZ hR dX6_best_32 rfl (by omega) (by first | exact Or.inl ⟨fun q => by omega, rfl, rfl⟩ | (refine Or.inr ⟨⟨by omega, by omega, by omega⟩, hN, ?_⟩; rw [show b = 5 by omega]; first | (rw [if_pos (by omega)]; rfl) | (rw [if_neg (by omega)]; rfl)))
  · refine f_iload_n hZ dX6_best_11 rfl ?_
    refine f_iconst hZ dX6_best_12 ?_
    refine f_bipush hZ dX6_best_13 ?_
    refine sX6_56 hZ dX6_best_15 (t_X6_within (by omega) (by omega) (by omega)) (fun a15 M15 r15 h15 => ?_)
    obtain ⟨e15, h15⟩ := h15
    replace e15 := e15.symm
    subst e15
    refine f_eq (tgt := 30) hZ dX6_best_18 rfl (by omega) (fun h18 => ?_) (fun h18 => ?_)
    · refine f_bipush hZ dX6_best_30 ?_
      exact f_retI hZ hR dX6_best_32 rfl (by omega) (by first | exact Or.inl ⟨fun q => by omega, rfl, rfl⟩ | (refine Or.inr ⟨⟨by omega, by omega, by omega⟩, hN, ?_⟩; rw [show b = 5 by omega]; first | (rw [if_pos (by omega)]; rfl) | (rw [if_neg (by omega)]; rfl)))
    · refine f_iload_n hZ dX6_best_21 rfl ?_
      refine f_iconst hZ dX6_best_22 ?_
      refine f_iconst hZ dX6_best_23 ?_
      refine sX6_56 hZ dX6_best_24 (t_X6_within (by omega) (by omega) (by omega)) (fun a24 M24 r24 h24 => ?_)
      obtain ⟨e24, h24⟩ := h24
      replace e24 := e24.symm
      subst e24
      refine f_ne (tgt := 33) hZ dX6_best_27 rfl (by omega) (fun h27 => ?_) (fun h27 => ?_)
      · have hF : ∀ b, 1 ≤ b → b ≤ 4 → 0 ≤ drZ (dfZ M W w) n b ∧ drZ (dfZ M W w) n b ≤ 1188 := fun b b1 b4 => drZ_rg b1 (fun _ _ => dfZ_rg) (by omega)
        refine f_iconst hZ dX6_best_33 ?_
        refine f_istore (L' := [_, _, _, _, _, _, _, _]) hZ dX6_best_34 rfl rfl ?_
        refine f_aload_n hZ dX6_best_36 rfl ?_
        refine f_iload_n hZ dX6_best_37 rfl ?_
        refine f_iload_n hZ dX6_best_38 rfl ?_
        refine f_iload hZ dX6_best_39 rfl ?_
        refine vX6_180 hZ dX6_best_41 (t_X6_farthestOff (W := W) (by omega) (by omega) (by omega) h57 h58 hgk) (fun a41 M41 r41 h41 => ?_)
        obtain ⟨h41, e41⟩ := h41
        have hF1 := hF 1 (by omega) (by omega)
        refine f_istore (L' := [_, _, _, _, _, _, _, _]) hZ dX6_best_44 rfl rfl ?_
        refine f_iconst hZ dX6_best_46 ?_
        refine f_istore (L' := [_, _, _, _, _, _, _, _]) hZ dX6_best_47 rfl rfl ?_
        have loop : ∀ (m : Nat) (b : Int) (N : fM), 2 ≤ b → b + m = 5 → drF M N → fG X mX6_best Z 49 [.ref (xa X 0), .int (iv w), .int (iv n), .int (iv q), .int (iv (bsN (drZ (dfZ M W w) n) (b - 2).toNat).1), .int (iv (bsN (drZ (dfZ M W w) n) (b - 2).toNat).2), .int (iv b), .null] [] N := by
          intro m
          induction m with
          | zero =>
            intro b N hb2 hbm hN
            have hbs := bsN_rg hF (b - 2).toNat (by omega)
            refine f_iload hZ dX6_best_49 rfl ?_
            refine f_iconst hZ dX6_best_51 ?_
            refine f_igt (tgt := 86) hZ dX6_best_52 rfl (by omega) (by omega) (fun h52 => ?_) (fun h52 => ?_)
            · refine f_iload_n hZ dX6_best_86 rfl ?_
              refine f_ne (tgt := 95) hZ dX6_best_87 rfl (by omega) (fun h87 => ?_) (fun h87 => ?_)
              · refine f_iload hZ dX6_best_95 rfl ?_
                exact f_retI hZ hR dX6_best_97 rfl (by omega) (by first | exact Or.inl ⟨fun q => by omega, rfl, rfl⟩ | (refine Or.inr ⟨⟨by omega, by omega, by omega⟩, hN, ?_⟩; rw [show b = 5 by omega]; first | (rw [if_pos (by omega)]; rfl) | (rw [if_neg (by omega)]; rfl)))
              · refine f_iload hZ dX6_best_90 rfl ?_
                refine f_goto (tgt := 97) hZ dX6_best_92 rfl ?_
                exact f_retI hZ hR dX6_best_97 rfl (by omega) (by first | exact Or.inl ⟨fun q => by omega, rfl, rfl⟩ | (refine Or.inr ⟨⟨by omega, by omega, by omega⟩, hN, ?_⟩; rw [show b = 5 by omega]; first | (rw [if_pos (by omega)]; rfl) | (rw [if_neg (by omega)]; rfl)))
            · exfalso; omega
          | succ m ih =>
            intro b N hb2 hbm hN
            have hbs := bsN_rg hF (b - 2).toNat (by omega)
            refine f_iload hZ dX6_best_49 rfl ?_
            refine f_iconst hZ dX6_best_51 ?_
            refine f_igt (tgt := 86) hZ dX6_best_52 rfl (by omega) (by omega) (fun h52 => ?_) (fun h52 => ?_)
            · exfalso; omega
            · refine f_aload_n hZ dX6_best_55 rfl ?_
              refine f_iload_n hZ dX6_best_56 rfl ?_
              refine f_iload_n hZ dX6_best_57 rfl ?_
              refine f_iload hZ dX6_best_58 rfl ?_
              refine vX6_180 hZ dX6_best_60 (t_X6_farthestOff (W := W) (by rw [hN.1 1 (by decide) (by decide) (by decide) (by decide)]; omega) (by omega) (by omega) hN.2.1 hN.2.2 (hgk.eq (fun c hc => hN.1 c (by omega) (by omega) (by omega) (by omega)))) (fun a60 M60 r60 h60 => ?_)
              obtain ⟨h60, e60⟩ := h60
              rw [dfZ_eq (hN.1 1 (by decide) (by decide) (by decide) (by decide)) (hN.1 4 (by decide) (by decide) (by decide) (by decide))] at e60
              have hF1 := hF b (by omega) (by omega)
              refine f_istore (L' := [_, _, _, _, _, _, _, _]) hZ dX6_best_63 rfl rfl ?_
              refine f_iload hZ dX6_best_65 rfl ?_
              refine f_iload hZ dX6_best_67 rfl ?_
              refine f_ige (tgt := 80) hZ dX6_best_69 rfl (by omega) (by omega) (fun h69 => ?_) (fun h69 => ?_)
              · refine f_iinc (L' := [_, _, _, _, _, _, _, _]) hZ dX6_best_80 rfl rfl ?_
                refine f_goto (tgt := 49) hZ dX6_best_83 rfl ?_
                refine f_forget (L' := [_, _, _, _, _, _, _, .null]) ⟨Or.inl rfl, Or.inl rfl, Or.inl rfl, Or.inl rfl, Or.inl rfl, Or.inl rfl, Or.inl rfl, Or.inr rfl, trivial⟩ ?_
                have hh := ih (b + 1) M60 (by omega) (by omega) (hN.trans h60)
                rw [bsN_s hb2] at hh
                first | (rw [if_pos (by omega)] at hh; rw [e60]; exact hh) | (rw [if_neg (by omega)] at hh; exact hh)
              · refine f_iload hZ dX6_best_72 rfl ?_
                refine f_istore (L' := [_, _, _, _, _, _, _, _]) hZ dX6_best_74 rfl rfl ?_
                refine f_iload hZ dX6_best_76 rfl ?_
                refine f_istore (L' := [_, _, _, _, _, _, _, _]) hZ dX6_best_78 rfl rfl ?_
                refine f_iinc (L' := [_, _, _, _, _, _, _, _]) hZ dX6_best_80 rfl rfl ?_
                refine f_goto (tgt := 49) hZ dX6_best_83 rfl ?_
                refine f_forget (L' := [_, _, _, _, _, _, _, .null]) ⟨Or.inl rfl, Or.inl rfl, Or.inl rfl, Or.inl rfl, Or.inl rfl, Or.inl rfl, Or.inl rfl, Or.inr rfl, trivial⟩ ?_
                have hh := ih (b + 1) M60 (by omega) (by omega) (hN.trans h60)
                rw [bsN_s hb2] at hh
                first | (rw [if_pos (by omega)] at hh; rw [e60]; exact hh) | (rw [if_neg (by omega)] at hh; exact hh)
        rw [e41]
        exact loop 3 2 M41 (by omega) (by omega) h41
      · refine f_bipush hZ dX6_best_30 ?_
        exact f_retI hZ hR dX6_best_32 rfl (by omega) (by first | exact Or.inl ⟨fun q => by omega, rfl, rfl⟩ | (refine Or.inr ⟨⟨by omega, by omega, by omega⟩, hN, ?_⟩; rw [show b = 5 by omega]; first | (rw [if_pos (by omega)]; rfl) | (rw [if_neg (by omega)]; rfl)))

