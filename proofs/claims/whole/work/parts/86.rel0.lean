/-! the start -/
def M0 : fM := fun c i => if c = 22 then (if i = 0 then 1 else if i = 1 then 10005 else if i = 2 then 1 else 0) else if c = 29 then (if 0 ≤ i ∧ i ≤ 3 then i else 0) else if c = 19 ∧ i = 7 then 1 else if c = 39 ∧ i = 11 then -1 else if c = 55 ∧ 0 ≤ i ∧ i < 4 then -1 else if c = 37 ∧ i = 6 then 259 else if c = 37 ∧ i = 8 then -1 else if c = 59 ∧ i = 3 then 1 else if c = 59 ∧ i = 53 then -1 else if c = 60 ∧ 0 ≤ i ∧ i < 32 then b0 i else if c = 61 ∧ i = 0 then 32 else 0
theorem b0_rg : ∀ k : Fin 32, 0 ≤ b0 k.val ∧ b0 k.val ≤ 255 := by decide +kernel
theorem b0_in {i : Int} (h0 : 0 ≤ i) (h1 : i < 32) : 0 ≤ b0 i ∧ b0 i ≤ 255 := by
  have h := b0_rg ⟨i.toNat, by omega⟩
  rw [show (((⟨i.toNat, by omega⟩ : Fin 32).val : Nat) : Int) = i by show ((i.toNat : Nat) : Int) = i; omega] at h
  exact h
theorem m0_z {c : Nat} (h : c ≠ 22 ∧ c ≠ 29 ∧ c ≠ 19 ∧ c ≠ 39 ∧ c ≠ 55 ∧ c ≠ 37 ∧ c ≠ 59 ∧ c ≠ 60 ∧ c ≠ 61) (i : Int) : M0 c i = 0 := by
  unfold M0
  simp [h]
theorem m0_59 {i : Int} : M0 59 i = if i = 3 then 1 else if i = 53 then -1 else 0 := by simp [M0]
theorem m0_60 {i : Int} (h0 : 0 ≤ i) (h1 : i < 32) : M0 60 i = b0 i := by simp [M0, h0, h1]
theorem m0_61 : M0 61 0 = 32 := by simp [M0]
theorem m0_19 {i : Int} : M0 19 i = if i = 7 then 1 else 0 := by simp [M0]
theorem m0_39 {i : Int} : M0 39 i = if i = 11 then -1 else 0 := by simp [M0]
theorem m0_55 {i : Int} (h0 : 0 ≤ i) (h1 : i < 4) : M0 55 i = -1 := by simp [M0, h0, h1]
theorem m0_29 {i : Int} (h0 : 0 ≤ i) (h1 : i ≤ 3) : M0 29 i = i := by simp [M0, h0, h1]
theorem RXst : RX M0 := by
  refine ⟨by rw [m0_59]; decide, by rw [m0_59, m0_59]; decide, fun t a b => ?_⟩
  rw [m0_59, if_pos rfl] at b
  have : t = 0 := by omega
  subst this
  refine ⟨b0, 32, ⟨m0_61, by decide, fun i i0 i1 => ?_, fun i i0 i1 => b0_in i0 i1, rdF_ok⟩, tx0 (by simp [M0]) (by simp [M0]) (by simp [M0]) (fun k k0 k1 => m0_29 k0 k1)⟩
  rw [show 160 * (0 : Int) + i = i by omega]
  exact m0_60 i0 i1
theorem Rel0 : Rel M0 := by
  have n12 : M0 59 12 = 0 := by rw [m0_59]; decide
  refine ⟨⟨?_, ?_, ?_, ?_, ?_, ?_⟩, ?_, ⟨?_, ?_, ?_, ?_⟩, ⟨?_, ?_⟩, RXst, Or.inl ⟨m0_z (by decide) 8, by rw [m0_59]; decide⟩, fun s a b => ⟨?_, Or.inl ⟨m0_55 a b, m0_z (by decide) s⟩⟩, RN_fgt RXst (by rw [m0_39]; exact Or.inl (by decide)) (by rw [m0_39]; decide), ⟨m0_z (by decide) 0, m0_z (by decide) 0, m0_z (by decide) 0, m0_z (by decide) 0⟩⟩
  · rw [n12]; exact m0_z (by decide) 5
  · rw [m0_59]; exact m0_z (by decide) 6
  · rw [m0_59]; exact m0_z (by decide) 7
  · rw [m0_59]; exact m0_z (by decide) 8
  · rw [m0_59, m0_19]; decide
  · rw [m0_59, m0_19]; decide
  · unfold RA
    rw [n12]
    exact ⟨fun i a b => by omega, fun i a b => by omega, fun i a b => by omega, fun i a b => by omega, fun i a b => by omega⟩
  · rw [n12]; decide
  · rw [m0_59]; decide
  · rw [m0_59]; decide
  · rw [n12]; exact fun i a b => by omega
  · rw [m0_59]; decide
  · rw [m0_59]
    intro i a b
    have b : i < 0 := b
    omega
  · rw [m0_z (by decide) s]; decide
