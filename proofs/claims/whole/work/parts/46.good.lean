def WfX (n : Int) (x : pT) : Prop := 0 ≤ pat x ∧ pat x ≤ n ∧ (ptk x ≠ 258 → pat x < pnx x ∧ pnx x ≤ n) ∧ (ptk x = 256 → 0 ≤ pvl x ∧ pvl x ≤ 9999) ∧ (ptk x = 257 → 0 ≤ pvl x ∧ pvl x ≤ 5) ∧ ((pcd x).length : Int) ≤ pat x ∧ (ptk x ≠ 259)
def Ge (n : Int) (x y : pT) : Prop := WfX n y ∧ ∃ s, pcd y = pcd x ++ s ∧ (s.length : Int) ≤ pat y - pat x ∧ Sg s (pv y)
def Gd (n : Int) (f : pT → pE) : Prop := ∀ x y, WfX n x → f x = .ok y → Ge n x y
section Good
variable {B : Int → Int} {n : Int}
theorem adv_wf {x y : pT} (h0 : 0 ≤ pnx x) (hx : pnx x ≤ n) (hl : ((pcd x).length : Int) ≤ pnx x) (h : adv B n x = .ok y) : WfX n y ∧ pnx x ≤ pat y ∧ pcd y = pcd x ∧ pv y = pv x := by
  unfold adv at h
  obtain ⟨⟨h1, h2⟩, h3, h4, h5⟩ := lex_wf (B := B) hx
  split at h
  · cases h
  · next hne =>
    cases h
    exact ⟨⟨by show 0 ≤ (lex B n (pnx x)).1; omega, h2, fun q => h3 q hne, h4, h5, Int.le_trans hl h1, hne⟩, h1, rfl, rfl⟩
theorem adv_ok {x y : pT} (hx : WfX n x) (ht : ptk x ≠ 258) (h : adv B n x = .ok y) : WfX n y ∧ pat x + 1 ≤ pat y ∧ pcd y = pcd x ∧ pv y = pv x := by
  obtain ⟨a1, a2, a3, a4, a5, a6, a7⟩ := hx
  have a3 := a3 ht
  obtain ⟨b1, b2, b3, b4⟩ := adv_wf (by omega) a3.2 (by omega) h
  exact ⟨b1, by omega, b3, b4⟩
theorem expc_ok {w : Int} {x y : pT} (hw : w ≠ 258) (hx : WfX n x) (h : expc B n w x = .ok y) : WfX n y ∧ pat x + 1 ≤ pat y ∧ pcd y = pcd x ∧ pv y = pv x := by
  unfold expc at h
  split at h
  · next e => exact adv_ok hx (by rw [e]; exact hw) h
  · cases h
theorem emt_len {c : Int} {v : pV} {x : pT} : ((pcd (emt c v x)).length : Int) = (pcd x).length + 1 := by
  show (((pcd x ++ [c]).length : Nat) : Int) = _
  rw [List.length_append]; rfl
theorem emt_wf {c : Int} {v : pV} {x : pT} (hx : WfX n x) (hl : ((pcd x).length : Int) + 1 ≤ pat x) : WfX n (emt c v x) := by
  obtain ⟨a1, a2, a3, a4, a5, a6, a7⟩ := hx
  exact ⟨a1, a2, a3, a4, a5, by rw [emt_len]; exact hl, a7⟩
theorem Ge.len {x y : pT} (h : Ge n x y) : ((pcd y).length : Int) - (pcd x).length ≤ pat y - pat x := by
  obtain ⟨-, s, h1, h2, -⟩ := h
  rw [h1, List.length_append]; omega
/-- ahead of an emission there is room -/
theorem sub_room {f : pT → pE} (hf : Gd n f) {x z : pT} (hx : WfX n x) (ht : ptk x ≠ 258) (h : eb (adv B n x) f = .ok z) : WfX n z ∧ ((pcd z).length : Int) + 1 ≤ pat z ∧ pat x + 1 ≤ pat z ∧ ∃ s, pcd z = pcd x ++ s ∧ (s.length : Int) + 1 ≤ pat z - pat x ∧ Sg s (pv z) := by
  obtain ⟨y, h1, h2⟩ := eb_inv h
  obtain ⟨y1, y2, y3, y4⟩ := adv_ok hx ht h1
  obtain ⟨z1, s, z2, z3, z4⟩ := hf y z y1 h2
  have hl : ((pcd z).length : Int) = (pcd x).length + s.length := by rw [z2, y3, List.length_append]; omega
  have := hx.2.2.2.2.2.1
  exact ⟨z1, by omega, by omega, s, by rw [z2, y3], by omega, z4⟩
theorem un1_gd {f : pT → pE} (hf : Gd n f) {c : Int} {g : Int → Int} (hc : (c = -8 ∧ g = notZ) ∨ (c = -9 ∧ g = fun a => wI (-a))) {x y : pT} (hx : WfX n x) (ht : ptk x ≠ 258) (h : un1 B n f c g x = .ok y) : Ge n x y := by
  obtain ⟨z, h1, h2⟩ := eb_inv h
  obtain ⟨z1, z2, z5, s, z3, z4, z6⟩ := sub_room hf hx ht h1
  cases h2
  refine ⟨emt_wf z1 z2, s ++ [c], ?_, ?_, Sg_un z6 hc⟩
  · show pcd z ++ [c] = _
    rw [z3, List.append_assoc]
  · rw [List.length_append]
    show ((s.length + 1 : Nat) : Int) ≤ pat z - pat x
    omega
theorem bn1_ge {f : pT → pE} (hf : Gd n f) {c : Int} (h1 : -7 ≤ c) (h2 : c ≤ -1) {x0 x y : pT} (hx : Ge n x0 x) (ht : ptk x ≠ 258) (h : bn1 B n f c x = .ok y) : Ge n x0 y := by
  obtain ⟨z, g1, g2⟩ := eb_inv h
  obtain ⟨w1, s, w2, w3, w4⟩ := hx
  obtain ⟨z1, z2, z5, r, z3, z4, z6⟩ := sub_room hf w1 ht g1
  cases g2
  refine ⟨emt_wf z1 z2, s ++ (r ++ [c]), ?_, ?_, Sg_bin w4 z6 h1 h2⟩
  · show pcd z ++ [c] = _
    rw [z3, w2]; simp only [List.append_assoc]
  · rw [List.length_append, List.length_append]
    show ((s.length + (r.length + 1) : Nat) : Int) ≤ pat z - pat x0
    omega
def opO (op : Int → Int) : Prop := ∀ t, op t ≠ 0 → (-7 ≤ op t ∧ op t ≤ -1) ∧ t ≠ 258 ∧ t ≠ 259
theorem opO_3 : opO op3 := fun t h => by unfold op3 at *; by_cases q : t = 42 <;> simp [q] at h ⊢
theorem opO_2 : opO op2 := fun t h => by unfold op2 at *; by_cases q : t = 43 <;> by_cases r : t = 45 <;> simp [q, r] at h ⊢
theorem opO_6 : opO op6 := fun t h => by unfold op6 at *; by_cases q : t = 264 <;> simp [q] at h ⊢
theorem opO_7 : opO op7 := fun t h => by unfold op7 at *; by_cases q : t = 263 <;> simp [q] at h ⊢
theorem lp_ge {f : pT → pE} (hf : Gd n f) {op : Int → Int} (ho : opO op) {x0 : pT} : ∀ (m : Nat) {x y : pT}, Ge n x0 x → lp B n f op m x = .ok y → Ge n x0 y
  | 0, x, y, hx, h => by cases h; exact hx
  | m + 1, x, y, hx, h => by
    unfold lp at h
    split at h
    · cases h; exact hx
    · next hne =>
      obtain ⟨z, h1, h2⟩ := eb_inv h
      obtain ⟨o1, o2, o3⟩ := ho _ hne
      exact lp_ge hf ho m (bn1_ge hf o1.1 o1.2 hx o2 h1) h2
theorem lp_gd {f g : pT → pE} (hg : Gd n g) (hf : Gd n f) {op : Int → Int} (ho : opO op) {m : Nat} : Gd n (fun x => eb (g x) (lp B n f op m)) := fun x y hx h => by
  obtain ⟨z, h1, h2⟩ := eb_inv h
  exact lp_ge hf ho m (hg x z hx h1) h2
theorem trm_gd {o : pT → pE} (h : Gd n o) : Gd n (trmF B n o) := lp_gd h h opO_3
theorem sm_gd {o : pT → pE} (h : Gd n o) : Gd n (smF B n o) := lp_gd (trm_gd h) (trm_gd h) opO_2
theorem neg_gd {o : pT → pE} (h : Gd n o) {g : Option (pT → pE)} (hg : ∀ f, g = some f → Gd n f) : Gd n (negF B n o g) := fun x y hx hh => by
  unfold negF at hh
  split at hh
  · next e =>
    cases g with
    | none => cases hh
    | some f => exact un1_gd (hg f rfl) (Or.inl ⟨rfl, rfl⟩) hx (by rw [e]; decide) hh
  · obtain ⟨z, h1, h2⟩ := eb_inv hh
    have hz := sm_gd h x z hx h1
    unfold cmF at h2
    split at h2
    · next e => exact bn1_ge (sm_gd h) (by decide) (by decide) hz (by rw [e]; decide) h2
    · split at h2
      · next e => exact bn1_ge (sm_gd h) (by decide) (by decide) hz (by rw [e]; decide) h2
      · cases h2; exact hz
theorem bth_gd {g : pT → pE} (h : Gd n g) : Gd n (bthF B n g) := lp_gd h h opO_6
theorem eth_gd {g : pT → pE} (h : Gd n g) : Gd n (ethF B n g) := lp_gd (bth_gd h) (bth_gd h) opO_7
theorem onN_gd {x y : pT} (hx : WfX n x) (ht : ptk x = 256 ∨ ptk x = 257) (h : onN B n x = .ok y) : Ge n x y := by
  obtain ⟨a1, a2, a3, a4, a5, a6, a7⟩ := hx
  have a3 := a3 (by omega)
  unfold onN at h
  obtain ⟨b1, b2, b3, b4⟩ := adv_wf (x := emt _ _ x) (by show 0 ≤ pnx x; omega) a3.2 (by rw [emt_len]; show _ ≤ pnx x; omega) h
  have b2 : pnx x ≤ pat y := b2
  refine ⟨b1, _, b3, by show ((1 : Nat) : Int) ≤ pat y - pat x; omega, ?_⟩
  rw [b4]
  rcases ht with e | e
  · have := a4 e
    have hs := Sg_num (c := pvl x) (by omega)
    rw [if_pos e]
    show Sg _ (fun nm => if ptk x = 256 then pvl x else nm (pvl x))
    rw [show (fun nm : Int → Int => if ptk x = 256 then pvl x else nm (pvl x)) = (fun nm => if 10000 ≤ pvl x ∧ pvl x < 10006 then nm (pvl x - 10000) else pvl x) from by funext nm; rw [if_pos e, if_neg (by omega)]]
    exact hs
  · have := a5 e
    have hs := Sg_num (c := 10000 + pvl x) (by omega)
    rw [if_neg (by omega)]
    show Sg _ (fun nm => if ptk x = 256 then pvl x else nm (pvl x))
    rw [show (fun nm : Int → Int => if ptk x = 256 then pvl x else nm (pvl x)) = (fun nm => if 10000 ≤ 10000 + pvl x ∧ 10000 + pvl x < 10006 then nm (10000 + pvl x - 10000) else 10000 + pvl x) from by funext nm; rw [if_neg (by omega), if_pos (by omega), show 10000 + pvl x - 10000 = pvl x by omega]]
    exact hs
theorem one_gd {q : Option ((pT → pE) × (pT → pE))} (hq : ∀ o e, q = some (o, e) → Gd n o ∧ Gd n e) : Gd n (oneF B n q) := fun x y hx h => by
  unfold oneF at h
  split at h
  · next e => exact onN_gd hx e h
  · next hne =>
    cases q with
    | none => cases h
    | some p =>
      obtain ⟨o, e⟩ := p
      obtain ⟨ho, he⟩ := hq o e rfl
      simp only at h
      split at h
      · next ht => exact un1_gd ho (Or.inr ⟨rfl, rfl⟩) hx (by rw [ht]; decide) h
      · split at h
        · next ht =>
          obtain ⟨z, h1, h2⟩ := eb_inv h
          obtain ⟨z1, z2, z5, s, z3, z4, z6⟩ := sub_room he hx (by rw [ht]; decide) h1
          obtain ⟨y1, y2, y3, y4⟩ := expc_ok (by decide) z1 h2
          exact ⟨y1, s, by rw [y3, z3], by omega, by rw [y4]; exact z6⟩
        · cases h
theorem pLv_gd : ∀ k, Gd n (pLv B n k).1 ∧ Gd n (pLv B n k).2
  | 0 => by
    have h1 : Gd n (oneF B n none) := one_gd (q := none) (fun o e h => nomatch h)
    exact ⟨h1, neg_gd (g := none) h1 (fun f h => nomatch h)⟩
  | k + 1 => by
    have ih := pLv_gd k
    have h1 : Gd n (pLv B n (k + 1)).1 := one_gd (q := some ((pLv B n k).1, ethF B n (pLv B n k).2)) (fun o e h => by cases h; exact ⟨ih.1, eth_gd ih.2⟩)
    exact ⟨h1, neg_gd (g := some (pLv B n k).2) h1 (fun f h => by cases h; exact ih.2)⟩
theorem eth5_gd : Gd n (eth5 B n) := eth_gd (pLv_gd 5).2
theorem rd0_wf {x : pT} (hn : 0 ≤ n) (h : rd0 B n = .ok x) : WfX n x ∧ pcd x = [] := by
  obtain ⟨b1, b2, b3, b4⟩ := adv_wf (Int.le_refl 0) hn (by decide) h
  exact ⟨b1, b3⟩
theorem rdW_wf {p : pE} {k : Int} (hk : k ≠ -2) {x : pT} (h : rdW B n p k = .ok x) (hp : ∀ y, p = .ok y → WfX n y) : ∃ y z, p = .ok y ∧ rdZ B n p k = .ok z ∧ WfX n y ∧ WfX n z ∧ WfX n x ∧ pcd x = pcd z ∧ ∃ s, pcd z = pcd y ++ s ∧ Sg s (pv z) := by
  obtain ⟨z, h1, h2⟩ := eb_inv h
  obtain ⟨u, h3, h4⟩ := eb_inv h1
  obtain ⟨y, h5, h6⟩ := eb_inv h3
  obtain ⟨u1, u2, u3, u4⟩ := expc_ok (by omega) (hp y h5) h6
  obtain ⟨z1, s, z2, z3, z4⟩ := eth5_gd u z u1 h4
  obtain ⟨x1, x2, x3, x4⟩ := expc_ok (by decide) z1 h2
  exact ⟨y, z, h5, h1, hp y h5, z1, x1, x3, s, by rw [z2, u3], z4⟩
end Good
