/-! small rows beside the links (by wip/whole/links2.py) -/
theorem isC1 : isC 1 := Or.inl rfl
theorem isC7 : isC 7 := Or.inr (Or.inl rfl)
theorem isC13 : isC 13 := Or.inr (Or.inr rfl)
theorem f_nm {X : fX} {y : fY} {Z : fZ} {pc : Nat} {L st : List Value} {M : fM} {a : Int} (k : ∀ x, x = a → fG X y Z pc L (.int (iv x) :: st) M) : fG X y Z pc L (.int (iv a) :: st) M := k a rfl
theorem f_nml {X : fX} {y : fY} {Z : fZ} {pc : Nat} {L st : List Value} {M : fM} {a : Int} (k : ∀ x, x = a → fG X y Z pc L (.long (jv x) :: st) M) : fG X y Z pc L (.long (jv a) :: st) M := k a rfl
theorem f_eqM {X : fX} {y : fY} {Z : fZ} {pc : Nat} {L st : List Value} {M M' : fM} (e : M' = M) (k : fG X y Z pc L st M) : fG X y Z pc L st M' := e ▸ k
theorem f_top {X : fX} {y : fY} {Z : fZ} {pc : Nat} {L st : List Value} {M : fM} {a b : Int} (e : b = a) (k : fG X y Z pc L (.int (iv a) :: st) M) : fG X y Z pc L (.int (iv b) :: st) M := e ▸ k
theorem f_topW {X : fX} {y : fY} {Z : fZ} {pc : Nat} {L st : List Value} {M : fM} {a : Int} (k : ∀ x, iv x = iv a → rg x → fG X y Z pc L (.int (iv x) :: st) M) : fG X y Z pc L (.int (iv a) :: st) M := by have := k (iv a).toInt (iv_of _) (rg_of _); rwa [iv_of] at this
theorem up_app {M : fM} {c c' : Nat} {i v i' : Int} : up M c i v c' i' = if c' = c ∧ i' = i then v else M c' i' := rfl
theorem cmpJ_ge {a b : Int} : 0 ≤ cmpJ a b ↔ b ≤ a := by unfold cmpJ; split <;> (try split) <;> omega
theorem cmpJ_le {a b : Int} : cmpJ a b ≤ 0 ↔ a ≤ b := by unfold cmpJ; split <;> (try split) <;> omega
abbrev bz (r : Int) (p : Prop) : Prop := (r = 1 ∧ p) ∨ (r = 0 ∧ ¬ p)
theorem fC.mono {X : fX} {d : Nat} {y : fY} {As : List Value} {M : fM} {P P' : Int → fM → Prop} (h : fC X d y As M (QI P)) (hp : ∀ a M', rg a → P a M' → P' a M') : fC X d y As M (QI P') := fun hm => by
  intro p e ha hc hk s m args below hf happ hP hT
  obtain ⟨n, o, h1, h2, h3, ⟨r, M1, e1, ⟨a, e2, ra, pa⟩, h6⟩, h7⟩ := h hm p e ha hc hk s m args below hf happ hP hT
  exact ⟨n, o, h1, h2, h3, ⟨r, M1, e1, ⟨a, e2, ra, hp a M1 ra pa⟩, h6⟩, h7⟩
theorem wk_X6_175 : Cond.methodLink RX6 175 Lib.Math.min.name ∈ tb := tb_in 682 (by decide +kernel) (by decide +kernel)
theorem wk_X6_183 : Cond.methodLink RX6 183 Lib.Math.max.name ∈ tb := tb_in 691 (by decide +kernel) (by decide +kernel)
theorem wk_X6_235 : Cond.methodLink RX6 235 arraycopyName ∈ tb := tb_in 786 (by decide +kernel) (by decide +kernel)
theorem wk_X0_44 : Cond.methodLink RX0 44 arraycopyName ∈ tb := tb_in 713 (by decide +kernel) (by decide +kernel)
theorem wk_X0_54 : Cond.methodLink RX0 54 Lib.Math.max.name ∈ tb := tb_in 351 (by decide +kernel) (by decide +kernel)
theorem wk_X0_71 : Cond.methodLink RX0 71 Lib.Math.min.name ∈ tb := tb_in 539 (by decide +kernel) (by decide +kernel)
theorem wk_X2_40 : Cond.methodLink RX2 40 Lib.Math.min.name ∈ tb := tb_in 381 (by decide +kernel) (by decide +kernel)
theorem wk_X3_30 : Cond.methodLink RX3 30 Lib.Math.min.name ∈ tb := tb_in 770 (by decide +kernel) (by decide +kernel)
theorem wk_X3_36 : Cond.methodLink RX3 36 Lib.Math.max.name ∈ tb := tb_in 771 (by decide +kernel) (by decide +kernel)
theorem wk_X4_118 : Cond.methodLink RX4 118 Lib.Math.min.name ∈ tb := tb_in 577 (by decide +kernel) (by decide +kernel)
theorem wk_X5_55 : Cond.methodLink RX5 55 Lib.Math.min.name ∈ tb := tb_in 590 (by decide +kernel) (by decide +kernel)
theorem wk_X5_60 : Cond.methodLink RX5 60 Lib.Math.max.name ∈ tb := tb_in 591 (by decide +kernel) (by decide +kernel)
