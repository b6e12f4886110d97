/-! numbers: an int of the machine is iv of an integer, a long jv of one -/
def iv (a : Int) : Int32 := Int32.ofInt a
def jv (a : Int) : Int64 := Int64.ofInt a
abbrev rg (a : Int) : Prop := -2147483648 ≤ a ∧ a < 2147483648
abbrev rj (a : Int) : Prop := -9223372036854775808 ≤ a ∧ a < 9223372036854775808
theorem iv_toInt {a : Int} (h : rg a) : (iv a).toInt = a := Int32.toInt_ofInt_of_le (by have := h.1; omega) (by have := h.2; omega)
theorem jv_toInt {a : Int} (h : rj a) : (jv a).toInt = a := Int64.toInt_ofInt_of_le (by have := h.1; omega) (by have := h.2; omega)
theorem iv_of (x : Int32) : iv x.toInt = x := Int32.ofInt_toInt x
theorem jv_of (x : Int64) : jv x.toInt = x := Int64.ofInt_toInt x
theorem rg_of (x : Int32) : rg x.toInt := ⟨by have := x.le_toInt; omega, by have := x.toInt_lt; omega⟩
theorem rj_of (x : Int64) : rj x.toInt := ⟨by have := x.le_toInt; omega, by have := x.toInt_lt; omega⟩
theorem iv_add (a b : Int) : iv a + iv b = iv (a + b) := (Int32.ofInt_add a b).symm
theorem iv_sub (a b : Int) : iv a - iv b = iv (a - b) := (Int32.ofInt_sub a b).symm
theorem iv_mul (a b : Int) : iv a * iv b = iv (a * b) := (Int32.ofInt_mul a b).symm
theorem iv_neg (a : Int) : -iv a = iv (-a) := (Int32.ofInt_neg a).symm
theorem jv_add (a b : Int) : jv a + jv b = jv (a + b) := (Int64.ofInt_add a b).symm
theorem jv_sub (a b : Int) : jv a - jv b = jv (a - b) := (Int64.ofInt_sub a b).symm
theorem jv_mul (a b : Int) : jv a * jv b = jv (a * b) := (Int64.ofInt_mul a b).symm
theorem iv_lt {a b : Int} (ha : rg a) (hb : rg b) : iv a < iv b ↔ a < b := by rw [Int32.lt_iff_toInt_lt, iv_toInt ha, iv_toInt hb]
theorem iv_le {a b : Int} (ha : rg a) (hb : rg b) : iv a ≤ iv b ↔ a ≤ b := by rw [Int32.le_iff_toInt_le, iv_toInt ha, iv_toInt hb]
theorem iv_eq {a b : Int} (ha : rg a) (hb : rg b) : iv a = iv b ↔ a = b := by rw [← Int32.toInt_inj, iv_toInt ha, iv_toInt hb]
theorem jv_eq {a b : Int} (ha : rj a) (hb : rj b) : jv a = jv b ↔ a = b := by rw [← Int64.toInt_inj, jv_toInt ha, jv_toInt hb]
theorem jv_lt {a b : Int} (ha : rj a) (hb : rj b) : jv a < jv b ↔ a < b := by rw [Int64.lt_iff_toInt_lt, jv_toInt ha, jv_toInt hb]
theorem iv_0 : iv 0 = 0 := by decide
theorem rg_0 : rg 0 := by omega
theorem iv_tdiv {a b : Int} (ha : rg a) (hb : rg b) (h1 : b ≠ -1) : iv a / iv b = iv (a.tdiv b) := by
  have hne : iv b ≠ -1 := fun h => h1 (by
    have h2 := congrArg Int32.toInt h
    rw [iv_toInt hb] at h2
    rw [h2]; decide)
  rw [← Int32.toInt_inj, Int32.toInt_div_of_ne_right _ _ hne, iv_toInt ha, iv_toInt hb]
  have e : iv (a.tdiv b) = iv a / iv b := by
    rw [← iv_of (iv a / iv b), Int32.toInt_div_of_ne_right _ _ hne, iv_toInt ha, iv_toInt hb]
  rw [e, Int32.toInt_div_of_ne_right _ _ hne, iv_toInt ha, iv_toInt hb]
theorem iv_tmod {a b : Int} (ha : rg a) (hb : rg b) : iv a % iv b = iv (a.tmod b) := by
  have e : iv (a.tmod b) = iv a % iv b := by
    rw [← iv_of (iv a % iv b), Int32.toInt_mod, iv_toInt ha, iv_toInt hb]
  exact e.symm
theorem iv_jv {a : Int} (ha : rg a) : (iv a).toInt64 = jv a := by
  rw [← jv_of (iv a).toInt64, Int32.toInt_toInt64, iv_toInt ha]
theorem jv_iv (a : Int) : (jv a).toInt32 = iv a := Int64.toInt32_ofInt
theorem iv_clamp {a : Int} (h0 : 0 ≤ a) (h : rg a) : (iv a).toNatClampNeg = a.toNat := by
  show (iv a).toInt.toNat = a.toNat
  rw [iv_toInt h]
theorem iv_in {a : Int} {n : Nat} (h0 : 0 ≤ a) (h1 : a < n) (hn : (n : Int) < 2147483648) : vp_in (iv a) n := by
  rw [vp_in_iff, iv_toInt ⟨by omega, by omega⟩]
  exact ⟨h0, h1⟩
theorem iv_ofNat (n : Nat) : Int32.ofNat n = iv n := Int32.ofInt_eq_ofNat.symm
