/-! the start -/
def zM : fM := fun _ _ => 0
def mT : fM := up (up (up zM 37 6 259) 37 8 (-1)) 37 1 38
def mU : fM := up (up (up (up (up (up (up mT 19 7 1) 22 0 1) 22 1 10005) 22 2 1) 29 1 1) 29 2 2) 29 3 3
def mV : fM := up mU 39 11 (-1)
def mW : fM := up (up (up (up mV 55 0 (-1)) 55 1 (-1)) 55 2 (-1)) 55 3 (-1)
def mY : fM := up mW 59 53 (-1)
def sp8 (M : fM) (p a b c d e f g h : Int) : fM := up (up (up (up (up (up (up (up M 60 p a) 60 (p + 1) b) 60 (p + 2) c) 60 (p + 3) d) 60 (p + 4) e) 60 (p + 5) f) 60 (p + 6) g) 60 (p + 7) h
def M0 : fM := up (up (sp8 (sp8 (sp8 (sp8 mY 0 99 111 115 116 115 32 49 32) 8 59 32 119 111 114 116 104 32) 16 115 112 97 110 32 59 32 100) 24 114 105 102 116 32 49 32 59) 61 0 32) 59 3 1
theorem b0_rg : ∀ k : Fin 32, 0 ≤ b0 k.val ∧ b0 k.val ≤ 255 := by decide +kernel
theorem b0_in {i : Int} (h0 : 0 ≤ i) (h1 : i < 32) : 0 ≤ b0 i ∧ b0 i ≤ 255 := by
  have h := b0_rg ⟨i.toNat, by omega⟩
  rw [show (((⟨i.toNat, by omega⟩ : Fin 32).val : Nat) : Int) = i by show ((i.toNat : Nat) : Int) = i; omega] at h
  exact h
theorem m0_z {c : Nat} (h : c ≠ 22 ∧ c ≠ 29 ∧ c ≠ 19 ∧ c ≠ 39 ∧ c ≠ 55 ∧ c ≠ 37 ∧ c ≠ 59 ∧ c ≠ 60 ∧ c ≠ 61) (i : Int) : M0 c i = 0 := by
  simp [M0, sp8, mY, mW, mV, mU, mT, zM, up, h]
theorem m0_59 {i : Int} : M0 59 i = if i = 3 then 1 else if i = 53 then -1 else 0 := by simp [M0, sp8, mY, mW, mV, mU, mT, zM, up]
theorem m0_60a : ∀ k : Fin 32, M0 60 k.val = b0 k.val := by decide +kernel
theorem m0_60 {i : Int} (h0 : 0 ≤ i) (h1 : i < 32) : M0 60 i = b0 i := by
  have h := m0_60a ⟨i.toNat, by omega⟩
  rw [show (((⟨i.toNat, by omega⟩ : Fin 32).val : Nat) : Int) = i by show ((i.toNat : Nat) : Int) = i; omega] at h
  exact h
theorem m0_61 : M0 61 0 = 32 := by simp [M0, sp8, mY, mW, mV, mU, mT, zM, up]
theorem m0_19 {i : Int} : M0 19 i = if i = 7 then 1 else 0 := by simp [M0, sp8, mY, mW, mV, mU, mT, zM, up]
theorem m0_39 {i : Int} : M0 39 i = if i = 11 then -1 else 0 := by simp [M0, sp8, mY, mW, mV, mU, mT, zM, up]
theorem m0_55 {i : Int} (h0 : 0 ≤ i) (h1 : i < 4) : M0 55 i = -1 := by
  rcases (show i = 0 ∨ i = 1 ∨ i = 2 ∨ i = 3 by omega) with e | e | e | e <;> subst e <;> decide +kernel
theorem m0_29 {i : Int} (h0 : 0 ≤ i) (h1 : i ≤ 3) : M0 29 i = i := by
  rcases (show i = 0 ∨ i = 1 ∨ i = 2 ∨ i = 3 by omega) with e | e | e | e <;> subst e <;> decide +kernel
theorem zM_can : Can zM := fun _ _ => by show rg 0; omega
theorem M0_can : Can M0 := by
  unfold M0 sp8 mY mW mV mU mT
  repeat (first | exact zM_can | refine Can_up ?_ (by omega))
theorem RXst : RX M0 := by
  refine ⟨by rw [m0_59]; decide, by rw [m0_59, m0_59]; decide, fun t a b => ?_⟩
  rw [m0_59, if_pos rfl] at b
  have : t = 0 := by omega
  subst this
  refine ⟨b0, 32, ⟨m0_61, by decide, fun i i0 i1 => ?_, fun i i0 i1 => b0_in i0 i1, rdF_ok⟩, tx0 (by decide +kernel) (by decide +kernel) (by decide +kernel) (fun k k0 k1 => m0_29 k0 k1)⟩
  rw [show 160 * (0 : Int) + i = i by omega]
  exact m0_60 i0 i1
theorem Rel0 : Rel M0 := by
  have n12 : M0 59 12 = 0 := by rw [m0_59]; decide
  refine ⟨⟨?_, ?_, ?_, ?_, ?_, ?_⟩, ?_, ⟨?_, ?_, ?_, ?_⟩, ⟨?_, ?_⟩, RXst, Or.inl ⟨m0_z (by decide) 8, by rw [m0_59]; decide⟩, fun s a b => ⟨?_, Or.inl ⟨m0_55 a b, m0_z (by decide) s⟩⟩, RN_fgt RXst (by rw [m0_39]; exact Or.inl (by decide)) (by rw [m0_39]; decide), ⟨m0_z (by decide) 0, m0_z (by decide) 0, m0_z (by decide) 0, m0_z (by decide) 0⟩⟩
  · rw [n12]; exact m0_z (by decide) 5
  · rw [m0_59]; exact m0_z (by decide) 6
  · rw [m0_59]; exact m0_z (by decide) 7
  · rw [m0_59]; exact m0_z (by decide) 8
  · rw [m0_59, m0_19]; decide
  · rw [m0_59, m0_19]; decide
  · unfold RA
    rw [n12]
    exact ⟨fun i a b => by omega, fun i a b => by omega, fun i a b => by omega, fun i a b => by omega, fun i a b => by omega⟩
  · rw [n12]; decide
  · rw [m0_59]; decide
  · rw [m0_59]; decide
  · rw [n12]; exact fun i a b => by omega
  · rw [m0_59]; decide
  · rw [m0_59]
    intro i a b
    have b : i < 0 := b
    omega
  · rw [m0_z (by decide) s]; decide
