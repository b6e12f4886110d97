/-! THE RULES: one for each instruction (by wip/whole/mk_rules.py) -/
def andI (a b : Int) : Int := (iv a &&& iv b).toInt
def orI (a b : Int) : Int := (iv a ||| iv b).toInt
def shlI (a b : Int) : Int := (iv a <<< (iv b &&& 31)).toInt
def shrI (a b : Int) : Int := (iv a >>> (iv b &&& 31)).toInt
def ushrI (a b : Int) : Int := ((iv a).toUInt32 >>> ((iv b).toUInt32 &&& Int32.toUInt32 31)).toInt32.toInt
def andJ (a b : Int) : Int := (jv a &&& jv b).toInt
def orJ (a b : Int) : Int := (jv a ||| jv b).toInt
def shlJ (a b : Int) : Int := (jv a <<< ((iv b).toInt64 &&& 63)).toInt
def byI (a : Int) : Int := (iv a).toInt8.toInt32.toInt
def shI (a : Int) : Int := (iv a).toInt16.toInt32.toInt
def cmpJ (a b : Int) : Int := if a < b then -1 else if a = b then 0 else 1
theorem rg_cmpJ (a b : Int) : rg (cmpJ a b) := by unfold cmpJ; split <;> (try split) <;> omega
theorem cmpJ_lt {a b : Int} : cmpJ a b < 0 ↔ a < b := by unfold cmpJ; split <;> (try split) <;> omega
theorem cmpJ_gt {a b : Int} : 0 < cmpJ a b ↔ b < a := by unfold cmpJ; split <;> (try split) <;> omega
theorem cmpJ_eq {a b : Int} : cmpJ a b = 0 ↔ a = b := by unfold cmpJ; split <;> (try split) <;> omega
theorem lgc_iv {a b : Int} (ha : rj a) (hb : rj b) : lg_cmp (jv a) (jv b) = iv (cmpJ a b) := by
  unfold lg_cmp cmpJ
  by_cases h : a < b
  · rw [if_neg (fun q : jv a > jv b => by rw [gt_iff_lt, jv_lt hb ha] at q; omega), if_neg (fun q => by rw [jv_eq ha hb] at q; omega), if_pos h]; rfl
  · by_cases h2 : a = b
    · rw [if_neg (fun q : jv a > jv b => by rw [gt_iff_lt, jv_lt hb ha] at q; omega), if_pos (by rw [h2]), if_neg h, if_pos h2]; rfl
    · rw [if_pos (by show jv b < jv a; rw [jv_lt hb ha]; omega), if_neg h, if_neg h2]; rfl
theorem jv_tdiv {a b : Int} (ha : rj a) (hb : rj b) (h1 : b ≠ -1) : jv a / jv b = jv (a.tdiv b) := by
  have hne : jv b ≠ -1 := fun h => h1 (by
    have h2 := congrArg Int64.toInt h
    rw [jv_toInt hb] at h2
    rw [h2]; decide)
  have e : jv (a.tdiv b) = jv a / jv b := by
    rw [← jv_of (jv a / jv b), Int64.toInt_div_of_ne_right _ _ hne, jv_toInt ha, jv_toInt hb]
  exact e.symm
theorem tmod_e (a b : Int) : a.tmod b = a - a.tdiv b * b := by
  have := Int.tmod_add_mul_tdiv a b
  rw [Int.mul_comm] at this
  omega
theorem iv_rem {a b : Int} (ha : rg a) (hb : rg b) (h1 : b ≠ -1) : iv a - iv a / iv b * iv b = iv (a.tmod b) := by
  rw [iv_tdiv ha hb h1, iv_mul, iv_sub, tmod_e]
theorem jv_rem {a b : Int} (ha : rj a) (hb : rj b) (h1 : b ≠ -1) : jv a - jv a / jv b * jv b = jv (a.tmod b) := by
  rw [jv_tdiv ha hb h1, jv_mul, jv_sub, tmod_e]
theorem iv_ne0 {b : Int} (hb : rg b) (h : b ≠ 0) : ¬ iv b = 0 := fun e => h (by rw [← iv_0, iv_eq hb rg_0] at e; exact e)
theorem jv_0 : jv 0 = 0 := by decide
theorem jv_ne0 {b : Int} (hb : rj b) (h : b ≠ 0) : ¬ jv b = 0 := fun e => h (by rw [← jv_0, jv_eq hb (by omega)] at e; exact e)
theorem iv8 {n : Int} (h : -128 ≤ n ∧ n ≤ 127) : (Int8.ofInt n).toInt32 = iv n := by
  rw [← iv_of (Int8.ofInt n).toInt32, Int8.toInt_toInt32, Int8.toInt_ofInt_of_le (by omega) (by omega)]
theorem iv16 {n : Int} (h : -32768 ≤ n ∧ n ≤ 32767) : (Int16.ofInt n).toInt32 = iv n := by
  rw [← iv_of (Int16.ofInt n).toInt32, Int16.toInt_toInt32, Int16.toInt_ofInt_of_le (by omega) (by omega)]
theorem lay_small : ∀ c, c < nC → (lay c).2.1 < 2147483648 := by decide +kernel
section Rules
variable {X : fX} {y : fY} {d : Nat} {Z : fZ} {pc : Nat} {L L' st : List Value} {M : fM}
theorem f_iadd (hZ : Cx X y d Z) {a b : Int} (hd : decode y.2.1 pc = .ok (.iadd, 1))  (k : fG X y Z (pc + 1) L (.int (iv (a + b)) :: st) M) : fG X y Z pc L (.int (iv b) :: .int (iv a) :: st) M := fun hm hn H locs ls hl hp hs => lv_iadd hZ.ex hZ.by hd (by rw [iv_add]; exact k hm hn H locs ls hl hp hs)
theorem f_isub (hZ : Cx X y d Z) {a b : Int} (hd : decode y.2.1 pc = .ok (.isub, 1))  (k : fG X y Z (pc + 1) L (.int (iv (a - b)) :: st) M) : fG X y Z pc L (.int (iv b) :: .int (iv a) :: st) M := fun hm hn H locs ls hl hp hs => lv_isub hZ.ex hZ.by hd (by rw [iv_sub]; exact k hm hn H locs ls hl hp hs)
theorem f_imul (hZ : Cx X y d Z) {a b : Int} (hd : decode y.2.1 pc = .ok (.imul, 1))  (k : fG X y Z (pc + 1) L (.int (iv (a * b)) :: st) M) : fG X y Z pc L (.int (iv b) :: .int (iv a) :: st) M := fun hm hn H locs ls hl hp hs => lv_imul hZ.ex hZ.by hd (by rw [iv_mul]; exact k hm hn H locs ls hl hp hs)
theorem f_iand (hZ : Cx X y d Z) {a b : Int} (hd : decode y.2.1 pc = .ok (.iand, 1))  (k : fG X y Z (pc + 1) L (.int (iv (andI a b)) :: st) M) : fG X y Z pc L (.int (iv b) :: .int (iv a) :: st) M := fun hm hn H locs ls hl hp hs => lv_iand hZ.ex hZ.by hd (by have k2 := k hm hn H locs ls hl hp hs; unfold andI at k2; rw [iv_of] at k2; exact k2)
theorem f_ior (hZ : Cx X y d Z) {a b : Int} (hd : decode y.2.1 pc = .ok (.ior, 1))  (k : fG X y Z (pc + 1) L (.int (iv (orI a b)) :: st) M) : fG X y Z pc L (.int (iv b) :: .int (iv a) :: st) M := fun hm hn H locs ls hl hp hs => lv_ior hZ.ex hZ.by hd (by have k2 := k hm hn H locs ls hl hp hs; unfold orI at k2; rw [iv_of] at k2; exact k2)
theorem f_ishl (hZ : Cx X y d Z) {a b : Int} (hd : decode y.2.1 pc = .ok (.ishl, 1))  (k : fG X y Z (pc + 1) L (.int (iv (shlI a b)) :: st) M) : fG X y Z pc L (.int (iv b) :: .int (iv a) :: st) M := fun hm hn H locs ls hl hp hs => lv_ishl hZ.ex hZ.by hd (by have k2 := k hm hn H locs ls hl hp hs; unfold shlI at k2; rw [iv_of] at k2; exact k2)
theorem f_ishr (hZ : Cx X y d Z) {a b : Int} (hd : decode y.2.1 pc = .ok (.ishr, 1))  (k : fG X y Z (pc + 1) L (.int (iv (shrI a b)) :: st) M) : fG X y Z pc L (.int (iv b) :: .int (iv a) :: st) M := fun hm hn H locs ls hl hp hs => lv_ishr hZ.ex hZ.by hd (by have k2 := k hm hn H locs ls hl hp hs; unfold shrI at k2; rw [iv_of] at k2; exact k2)
theorem f_iushr (hZ : Cx X y d Z) {a b : Int} (hd : decode y.2.1 pc = .ok (.iushr, 1)) (k : fG X y Z (pc + 1) L (.int (iv (ushrI a b)) :: st) M) : fG X y Z pc L (.int (iv b) :: .int (iv a) :: st) M := fun hm hn H locs ls hl hp hs => lv_iushr hZ.ex hZ.by hd rfl (by have k2 := k hm hn H locs ls hl hp hs; unfold ushrI at k2; rw [iv_of] at k2; exact k2)
theorem f_ineg (hZ : Cx X y d Z) {a : Int} (hd : decode y.2.1 pc = .ok (.ineg, 1))  (k : fG X y Z (pc + 1) L (.int (iv (-a)) :: st) M) : fG X y Z pc L (.int (iv a) :: st) M := fun hm hn H locs ls hl hp hs => lv_ineg hZ.ex hZ.by hd (by rw [iv_neg]; exact k hm hn H locs ls hl hp hs)
theorem f_idiv (hZ : Cx X y d Z) {a b : Int} (hd : decode y.2.1 pc = .ok (.idiv, 1)) (ha : rg a) (hb : rg b) (h0 : b ≠ 0) (h1 : b ≠ -1) (k : fG X y Z (pc + 1) L (.int (iv (a.tdiv b)) :: st) M) : fG X y Z pc L (.int (iv b) :: .int (iv a) :: st) M := fun hm hn H locs ls hl hp hs => lv_idiv hZ.ex hZ.by hd (iv_ne0 hb h0) (by rw [iv_tdiv ha hb h1]; exact k hm hn H locs ls hl hp hs)
theorem f_irem (hZ : Cx X y d Z) {a b : Int} (hd : decode y.2.1 pc = .ok (.irem, 1)) (ha : rg a) (hb : rg b) (h0 : b ≠ 0) (h1 : b ≠ -1) (k : fG X y Z (pc + 1) L (.int (iv (a.tmod b)) :: st) M) : fG X y Z pc L (.int (iv b) :: .int (iv a) :: st) M := fun hm hn H locs ls hl hp hs => lv_irem hZ.ex hZ.by hd (iv_ne0 hb h0) (by rw [iv_rem ha hb h1]; exact k hm hn H locs ls hl hp hs)
theorem f_ladd (hZ : Cx X y d Z) {a b : Int} (hd : decode y.2.1 pc = .ok (.ladd, 1))  (k : fG X y Z (pc + 1) L (.long (jv (a + b)) :: st) M) : fG X y Z pc L (.long (jv b) :: .long (jv a) :: st) M := fun hm hn H locs ls hl hp hs => lv_ladd hZ.ex hZ.by hd (by rw [jv_add]; exact k hm hn H locs ls hl hp hs)
theorem f_lsub (hZ : Cx X y d Z) {a b : Int} (hd : decode y.2.1 pc = .ok (.lsub, 1))  (k : fG X y Z (pc + 1) L (.long (jv (a - b)) :: st) M) : fG X y Z pc L (.long (jv b) :: .long (jv a) :: st) M := fun hm hn H locs ls hl hp hs => lv_lsub hZ.ex hZ.by hd (by rw [jv_sub]; exact k hm hn H locs ls hl hp hs)
theorem f_lmul (hZ : Cx X y d Z) {a b : Int} (hd : decode y.2.1 pc = .ok (.lmul, 1))  (k : fG X y Z (pc + 1) L (.long (jv (a * b)) :: st) M) : fG X y Z pc L (.long (jv b) :: .long (jv a) :: st) M := fun hm hn H locs ls hl hp hs => lv_lmul hZ.ex hZ.by hd (by rw [jv_mul]; exact k hm hn H locs ls hl hp hs)
theorem f_land (hZ : Cx X y d Z) {a b : Int} (hd : decode y.2.1 pc = .ok (.land, 1))  (k : fG X y Z (pc + 1) L (.long (jv (andJ a b)) :: st) M) : fG X y Z pc L (.long (jv b) :: .long (jv a) :: st) M := fun hm hn H locs ls hl hp hs => lv_land hZ.ex hZ.by hd (by have k2 := k hm hn H locs ls hl hp hs; unfold andJ at k2; rw [jv_of] at k2; exact k2)
theorem f_lor (hZ : Cx X y d Z) {a b : Int} (hd : decode y.2.1 pc = .ok (.lor, 1))  (k : fG X y Z (pc + 1) L (.long (jv (orJ a b)) :: st) M) : fG X y Z pc L (.long (jv b) :: .long (jv a) :: st) M := fun hm hn H locs ls hl hp hs => lv_lor hZ.ex hZ.by hd (by have k2 := k hm hn H locs ls hl hp hs; unfold orJ at k2; rw [jv_of] at k2; exact k2)
theorem f_lshl (hZ : Cx X y d Z) {a b : Int} (hd : decode y.2.1 pc = .ok (.lshl, 1)) (k : fG X y Z (pc + 1) L (.long (jv (shlJ a b)) :: st) M) : fG X y Z pc L (.int (iv b) :: .long (jv a) :: st) M := fun hm hn H locs ls hl hp hs => lv_lshl hZ.ex hZ.by hd rfl (by have k2 := k hm hn H locs ls hl hp hs; unfold shlJ at k2; rw [jv_of] at k2; exact k2)
theorem f_ldiv (hZ : Cx X y d Z) {a b : Int} (hd : decode y.2.1 pc = .ok (.ldiv, 1)) (ha : rj a) (hb : rj b) (h0 : b ≠ 0) (h1 : b ≠ -1) (k : fG X y Z (pc + 1) L (.long (jv (a.tdiv b)) :: st) M) : fG X y Z pc L (.long (jv b) :: .long (jv a) :: st) M := fun hm hn H locs ls hl hp hs => lv_ldiv hZ.ex hZ.by hd (jv_ne0 hb h0) (by rw [jv_tdiv ha hb h1]; exact k hm hn H locs ls hl hp hs)
theorem f_lrem (hZ : Cx X y d Z) {a b : Int} (hd : decode y.2.1 pc = .ok (.lrem, 1)) (ha : rj a) (hb : rj b) (h0 : b ≠ 0) (h1 : b ≠ -1) (k : fG X y Z (pc + 1) L (.long (jv (a.tmod b)) :: st) M) : fG X y Z pc L (.long (jv b) :: .long (jv a) :: st) M := fun hm hn H locs ls hl hp hs => lv_lrem hZ.ex hZ.by hd (jv_ne0 hb h0) (by rw [jv_rem ha hb h1]; exact k hm hn H locs ls hl hp hs)
theorem f_lcmp (hZ : Cx X y d Z) {a b : Int} (hd : decode y.2.1 pc = .ok (.lcmp, 1)) (ha : rj a) (hb : rj b) (k : fG X y Z (pc + 1) L (.int (iv (cmpJ a b)) :: st) M) : fG X y Z pc L (.long (jv b) :: .long (jv a) :: st) M := fun hm hn H locs ls hl hp hs => W.lcmp hZ.ex hZ.by hd (by rw [lgc_iv ha hb]; exact k hm hn H locs ls hl hp hs)
theorem f_i2l (hZ : Cx X y d Z) {a : Int} (hd : decode y.2.1 pc = .ok (.i2l, 1)) (ha : rg a) (k : fG X y Z (pc + 1) L (.long (jv a) :: st) M) : fG X y Z pc L (.int (iv a) :: st) M := fun hm hn H locs ls hl hp hs => lv_i2l hZ.ex hZ.by hd (iv_jv ha) (k hm hn H locs ls hl hp hs)
theorem f_l2i (hZ : Cx X y d Z) {a : Int} (hd : decode y.2.1 pc = .ok (.l2i, 1)) (k : fG X y Z (pc + 1) L (.int (iv a) :: st) M) : fG X y Z pc L (.long (jv a) :: st) M := fun hm hn H locs ls hl hp hs => lv_l2i hZ.ex hZ.by hd (jv_iv a) (k hm hn H locs ls hl hp hs)
theorem f_i2b (hZ : Cx X y d Z) {a : Int} (hd : decode y.2.1 pc = .ok (.i2b, 1)) (k : fG X y Z (pc + 1) L (.int (iv (byI a)) :: st) M) : fG X y Z pc L (.int (iv a) :: st) M := fun hm hn H locs ls hl hp hs => lv_i2b hZ.ex hZ.by hd (by unfold byI; rw [iv_of]) (k hm hn H locs ls hl hp hs)
theorem f_i2s (hZ : Cx X y d Z) {a : Int} (hd : decode y.2.1 pc = .ok (.i2s, 1)) (k : fG X y Z (pc + 1) L (.int (iv (shI a)) :: st) M) : fG X y Z pc L (.int (iv a) :: st) M := fun hm hn H locs ls hl hp hs => lv_i2s hZ.ex hZ.by hd (by unfold shI; rw [iv_of]) (k hm hn H locs ls hl hp hs)
theorem f_iconst (hZ : Cx X y d Z) {n : Int} (hd : decode y.2.1 pc = .ok (.iconst n, 1)) (k : fG X y Z (pc + 1) L (.int (iv n) :: st) M) : fG X y Z pc L st M := fun hm hn H locs ls hl hp hs => lv_iconst hZ.ex hZ.by hd rfl (k hm hn H locs ls hl hp hs)
theorem f_bipush (hZ : Cx X y d Z) {n : Int} (hd : decode y.2.1 pc = .ok (.bipush n, 2)) (k : fG X y Z (pc + 2) L (.int (iv n) :: st) M) (h : -128 ≤ n ∧ n ≤ 127 := by omega) : fG X y Z pc L st M := fun hm hn H locs ls hl hp hs => lv_bipush hZ.ex hZ.by hd (iv8 h) (k hm hn H locs ls hl hp hs)
theorem f_sipush (hZ : Cx X y d Z) {n : Int} (hd : decode y.2.1 pc = .ok (.sipush n, 3)) (k : fG X y Z (pc + 3) L (.int (iv n) :: st) M) (h : -32768 ≤ n ∧ n ≤ 32767 := by omega) : fG X y Z pc L st M := fun hm hn H locs ls hl hp hs => lv_sipush hZ.ex hZ.by hd (iv16 h) (k hm hn H locs ls hl hp hs)
theorem f_lconst0 (hZ : Cx X y d Z) (hd : decode y.2.1 pc = .ok (.lconst 0, 1)) (k : fG X y Z (pc + 1) L (.long (jv 0) :: st) M) : fG X y Z pc L st M := fun hm hn H locs ls hl hp hs => lv_lconst hZ.ex hZ.by hd (v := jv 0) (by decide) (k hm hn H locs ls hl hp hs)
theorem f_lconst1 (hZ : Cx X y d Z) (hd : decode y.2.1 pc = .ok (.lconst 1, 1)) (k : fG X y Z (pc + 1) L (.long (jv 1) :: st) M) : fG X y Z pc L st M := fun hm hn H locs ls hl hp hs => lv_lconst hZ.ex hZ.by hd (v := jv 1) (by decide) (k hm hn H locs ls hl hp hs)
theorem f_ldc (hZ : Cx X y d Z) {i : Nat} {v : Int32} (e : Int) (hd : decode y.2.1 pc = .ok (.ldc i, 2)) (hw : Cond.constant y.1.cls i v ∈ tb) (hv : v = iv e) (k : fG X y Z (pc + 2) L (.int (iv e) :: st) M) : fG X y Z pc L st M := fun hm hn H locs ls hl hp hs => lv_ldc hZ.ex hZ.by hZ.own (hZ.ts _ hw) hd (by rw [hv]; exact k hm hn H locs ls hl hp hs)
theorem f_ldc_w (hZ : Cx X y d Z) {i : Nat} {v : Int32} (e : Int) (hd : decode y.2.1 pc = .ok (.ldc_w i, 3)) (hw : Cond.constant y.1.cls i v ∈ tb) (hv : v = iv e) (k : fG X y Z (pc + 3) L (.int (iv e) :: st) M) : fG X y Z pc L st M := fun hm hn H locs ls hl hp hs => lv_ldcw hZ.ex hZ.by hZ.own (hZ.ts _ hw) hd (by rw [hv]; exact k hm hn H locs ls hl hp hs)
theorem f_ldc2 (hZ : Cx X y d Z) {i : Nat} {v : Int64} (e : Int) (hd : decode y.2.1 pc = .ok (.ldc2_w i, 3)) (hw : Cond.constantLong y.1.cls i v ∈ tb) (hv : v = jv e) (k : fG X y Z (pc + 3) L (.long (jv e) :: st) M) : fG X y Z pc L st M := fun hm hn H locs ls hl hp hs => lv_ldc2 hZ.ex hZ.by hZ.own (hZ.ts _ hw) hd (by rw [hv]; exact k hm hn H locs ls hl hp hs)
theorem f_iload_n (hZ : Cx X y d Z) {i : Fin 4} {x : Int32} (hd : decode y.2.1 pc = .ok (.iload_n i, 1)) (hv : L[(i : Nat)]? = some (.int x)) (k : fG X y Z (pc + 1) L (.int x :: st) M) : fG X y Z pc L st M := fun hm hn H locs ls hl hp hs => lv_iload_n hZ.ex hZ.by hd rfl (hl.at hv (by simp)) (k hm hn H locs ls hl hp hs)
theorem f_iload (hZ : Cx X y d Z) {i : Nat} {x : Int32} (hd : decode y.2.1 pc = .ok (.iload i, 2)) (hv : L[i]? = some (.int x)) (k : fG X y Z (pc + 2) L (.int x :: st) M) : fG X y Z pc L st M := fun hm hn H locs ls hl hp hs => lv_iload hZ.ex hZ.by hd (hl.at hv (by simp)) (k hm hn H locs ls hl hp hs)
theorem f_lload_n (hZ : Cx X y d Z) {i : Fin 4} {x : Int64} (hd : decode y.2.1 pc = .ok (.lload_n i, 1)) (hv : L[(i : Nat)]? = some (.long x)) (k : fG X y Z (pc + 1) L (.long x :: st) M) : fG X y Z pc L st M := fun hm hn H locs ls hl hp hs => lv_lload_n hZ.ex hZ.by hd rfl (hl.at hv (by simp)) (k hm hn H locs ls hl hp hs)
theorem f_lload (hZ : Cx X y d Z) {i : Nat} {x : Int64} (hd : decode y.2.1 pc = .ok (.lload i, 2)) (hv : L[i]? = some (.long x)) (k : fG X y Z (pc + 2) L (.long x :: st) M) : fG X y Z pc L st M := fun hm hn H locs ls hl hp hs => lv_lload hZ.ex hZ.by hd (hl.at hv (by simp)) (k hm hn H locs ls hl hp hs)
theorem f_aload_n (hZ : Cx X y d Z) {i : Fin 4} {x : Nat} (hd : decode y.2.1 pc = .ok (.aload_n i, 1)) (hv : L[(i : Nat)]? = some (.ref x)) (k : fG X y Z (pc + 1) L (.ref x :: st) M) : fG X y Z pc L st M := fun hm hn H locs ls hl hp hs => lv_aload_n hZ.ex hZ.by hd rfl (hl.at hv (by simp)) (k hm hn H locs ls hl hp hs)
theorem f_aload (hZ : Cx X y d Z) {i : Nat} {x : Nat} (hd : decode y.2.1 pc = .ok (.aload i, 2)) (hv : L[i]? = some (.ref x)) (k : fG X y Z (pc + 2) L (.ref x :: st) M) : fG X y Z pc L st M := fun hm hn H locs ls hl hp hs => lv_aload hZ.ex hZ.by hd (hl.at hv (by simp)) (k hm hn H locs ls hl hp hs)
theorem st1_len {L L' : List Value} {i : Nat} {v : Value} (h : st1 L i v = some L') : L'.length = L.length := by rw [(st1_spec h).1, List.length_set]
theorem st2_len {L L' : List Value} {i : Nat} {v : Value} (h : st2 L i v = some L') : L'.length = L.length := by
  unfold st2 at h
  cases h1 : st1 L i v with
  | none => rw [h1] at h; cases h
  | some L1 => rw [h1] at h; cases h; rw [List.length_set, st1_len h1]
theorem f_istore_n (hZ : Cx X y d Z) {i : Fin 4} {x : Int32} (hd : decode y.2.1 pc = .ok (.istore_n i, 1)) (hi : decide ((i : Nat) < L.length) = true) (hv : st1 L (i : Nat) (.int x) = some L') (k : fG X y Z (pc + 1) L' st M) : fG X y Z pc L (.int x :: st) M := fun hm hn H locs ls hl hp hs => lv_istore_n hZ.ex hZ.by hd rfl hl.has (by rw [← hn]; exact of_decide_eq_true hi) rfl (fun ls' hl' => k hm ((st1_len hv).trans hn) H locs ls' (LH_st1 hv hn hl') hp hs)
theorem f_istore (hZ : Cx X y d Z) {i : Nat} {x : Int32} (hd : decode y.2.1 pc = .ok (.istore i, 2)) (hi : decide (i < L.length) = true) (hv : st1 L i (.int x) = some L') (k : fG X y Z (pc + 2) L' st M) : fG X y Z pc L (.int x :: st) M := fun hm hn H locs ls hl hp hs => lv_istore hZ.ex hZ.by hd hl.has (by rw [← hn]; exact of_decide_eq_true hi) rfl (fun ls' hl' => k hm ((st1_len hv).trans hn) H locs ls' (LH_st1 hv hn hl') hp hs)
theorem f_astore_n (hZ : Cx X y d Z) {i : Fin 4} {x : Nat} (hd : decode y.2.1 pc = .ok (.astore_n i, 1)) (hi : decide ((i : Nat) < L.length) = true) (hv : st1 L (i : Nat) (.ref x) = some L') (k : fG X y Z (pc + 1) L' st M) : fG X y Z pc L (.ref x :: st) M := fun hm hn H locs ls hl hp hs => lv_astore_n hZ.ex hZ.by hd rfl hl.has (by rw [← hn]; exact of_decide_eq_true hi) rfl (fun ls' hl' => k hm ((st1_len hv).trans hn) H locs ls' (LH_st1 hv hn hl') hp hs)
theorem f_astore (hZ : Cx X y d Z) {i : Nat} {x : Nat} (hd : decode y.2.1 pc = .ok (.astore i, 2)) (hi : decide (i < L.length) = true) (hv : st1 L i (.ref x) = some L') (k : fG X y Z (pc + 2) L' st M) : fG X y Z pc L (.ref x :: st) M := fun hm hn H locs ls hl hp hs => lv_astore hZ.ex hZ.by hd hl.has (by rw [← hn]; exact of_decide_eq_true hi) rfl (fun ls' hl' => k hm ((st1_len hv).trans hn) H locs ls' (LH_st1 hv hn hl') hp hs)
theorem f_lstore_n (hZ : Cx X y d Z) {i : Fin 4} {x : Int64} (hd : decode y.2.1 pc = .ok (.lstore_n i, 1)) (hi : decide ((i : Nat) + 1 < L.length) = true) (hv : st2 L (i : Nat) (.long x) = some L') (k : fG X y Z (pc + 1) L' st M) : fG X y Z pc L (.long x :: st) M := fun hm hn H locs ls hl hp hs => lv_lstore_n hZ.ex hZ.by hd rfl hl.has (by rw [← hn]; exact of_decide_eq_true hi) rfl (fun ls' hl' => k hm ((st2_len hv).trans hn) H locs ls' (LH_st2 hv hn hl') hp hs)
theorem f_lstore (hZ : Cx X y d Z) {i : Nat} {x : Int64} (hd : decode y.2.1 pc = .ok (.lstore i, 2)) (hi : decide (i + 1 < L.length) = true) (hv : st2 L i (.long x) = some L') (k : fG X y Z (pc + 2) L' st M) : fG X y Z pc L (.long x :: st) M := fun hm hn H locs ls hl hp hs => lv_lstore hZ.ex hZ.by hd hl.has (by rw [← hn]; exact of_decide_eq_true hi) rfl (fun ls' hl' => k hm ((st2_len hv).trans hn) H locs ls' (LH_st2 hv hn hl') hp hs)
theorem f_iinc (hZ : Cx X y d Z) {i : Nat} {n a : Int} (hd : decode y.2.1 pc = .ok (.iinc i n, 3)) (hx : L[i]? = some (.int (iv a))) (hv : st1 L i (.int (iv (a + n))) = some L') (k : fG X y Z (pc + 3) L' st M) : fG X y Z pc L st M := fun hm hn H locs ls hl hp hs => by
  obtain ⟨q, hq⟩ := List.getElem?_of_mem (enP_mem.mpr ⟨hx, by simp⟩)
  exact lv_iinc hZ.ex hZ.by hd hl.has hq (iv_add a n) (by rw [← hn]; exact (List.getElem?_eq_some_iff.mp hx).1) rfl (fun ls' hl' => k hm ((st1_len hv).trans hn) H locs ls' (LH_st1 hv hn hl') hp hs)
theorem f_dup (hZ : Cx X y d Z) {v : Value} (hd : decode y.2.1 pc = .ok (.dup, 1)) (hc : v.category = 1) (k : fG X y Z (pc + 1) L (v :: v :: st) M) : fG X y Z pc L (v :: st) M := fun hm hn H locs ls hl hp hs => lv_dup hZ.ex hZ.by hd hc (by exact k hm hn H locs ls hl hp hs)
theorem f_pop (hZ : Cx X y d Z) {v : Value} (hd : decode y.2.1 pc = .ok (.pop, 1)) (hc : v.category = 1) (k : fG X y Z (pc + 1) L st M) : fG X y Z pc L (v :: st) M := fun hm hn H locs ls hl hp hs => lv_pop hZ.ex hZ.by hd hc (by exact k hm hn H locs ls hl hp hs)
theorem f_dup2 (hZ : Cx X y d Z) {v w : Value} (hd : decode y.2.1 pc = .ok (.dup2, 1)) (hc : v.category = 1) (hc2 : w.category = 1) (k : fG X y Z (pc + 1) L (v :: w :: v :: w :: st) M) : fG X y Z pc L (v :: w :: st) M := fun hm hn H locs ls hl hp hs => lv_dup2_11 hZ.ex hZ.by hd hc hc2 (by exact k hm hn H locs ls hl hp hs)
theorem f_ieq (hZ : Cx X y d Z) {a b : Int} {off : Int} {tgt : Nat} (hd : decode y.2.1 pc = .ok (.if_icmp .eq off, 3)) (ht : (pc : Int) + off = (tgt : Int)) (ha : rg a) (hb : rg b) (kt : a = b → fG X y Z tgt L st M) (kf : ¬ a = b → fG X y Z (pc + 3) L st M) : fG X y Z pc L (.int (iv b) :: .int (iv a) :: st) M := fun hm hn H locs ls hl hp hs => lv_icmp_eq hZ.ex hZ.by hd ht (fun q => kt ((iv_eq ha hb).mp q) hm hn H locs ls hl hp hs) (fun q => kf (fun e => q ((iv_eq ha hb).mpr e)) hm hn H locs ls hl hp hs)
theorem f_eq (hZ : Cx X y d Z) {a : Int} {off : Int} {tgt : Nat} (hd : decode y.2.1 pc = .ok (.ifCond .eq off, 3)) (ht : (pc : Int) + off = (tgt : Int)) (ha : rg a) (kt : a = 0 → fG X y Z tgt L st M) (kf : ¬ a = 0 → fG X y Z (pc + 3) L st M) : fG X y Z pc L (.int (iv a) :: st) M := fun hm hn H locs ls hl hp hs => lv_if_eq hZ.ex hZ.by hd ht (fun q => kt (by rw [← iv_0] at q; exact (iv_eq ha rg_0).mp q) hm hn H locs ls hl hp hs) (fun q => kf (fun e => q (by rw [← iv_0]; exact (iv_eq ha rg_0).mpr e)) hm hn H locs ls hl hp hs)
theorem f_ine (hZ : Cx X y d Z) {a b : Int} {off : Int} {tgt : Nat} (hd : decode y.2.1 pc = .ok (.if_icmp .ne off, 3)) (ht : (pc : Int) + off = (tgt : Int)) (ha : rg a) (hb : rg b) (kt : ¬ a = b → fG X y Z tgt L st M) (kf : a = b → fG X y Z (pc + 3) L st M) : fG X y Z pc L (.int (iv b) :: .int (iv a) :: st) M := fun hm hn H locs ls hl hp hs => lv_icmp_ne hZ.ex hZ.by hd ht (fun q => kt (fun e => q ((iv_eq ha hb).mpr e)) hm hn H locs ls hl hp hs) (fun q => kf ((iv_eq ha hb).mp q) hm hn H locs ls hl hp hs)
theorem f_ne (hZ : Cx X y d Z) {a : Int} {off : Int} {tgt : Nat} (hd : decode y.2.1 pc = .ok (.ifCond .ne off, 3)) (ht : (pc : Int) + off = (tgt : Int)) (ha : rg a) (kt : ¬ a = 0 → fG X y Z tgt L st M) (kf : a = 0 → fG X y Z (pc + 3) L st M) : fG X y Z pc L (.int (iv a) :: st) M := fun hm hn H locs ls hl hp hs => lv_if_ne hZ.ex hZ.by hd ht (fun q => kt (fun e => q (by rw [← iv_0]; exact (iv_eq ha rg_0).mpr e)) hm hn H locs ls hl hp hs) (fun q => kf (by rw [← iv_0] at q; exact (iv_eq ha rg_0).mp q) hm hn H locs ls hl hp hs)
theorem f_ilt (hZ : Cx X y d Z) {a b : Int} {off : Int} {tgt : Nat} (hd : decode y.2.1 pc = .ok (.if_icmp .lt off, 3)) (ht : (pc : Int) + off = (tgt : Int)) (ha : rg a) (hb : rg b) (kt : a < b → fG X y Z tgt L st M) (kf : ¬ a < b → fG X y Z (pc + 3) L st M) : fG X y Z pc L (.int (iv b) :: .int (iv a) :: st) M := fun hm hn H locs ls hl hp hs => lv_icmp_lt hZ.ex hZ.by hd ht (fun q => kt ((iv_lt ha hb).mp q) hm hn H locs ls hl hp hs) (fun q => kf (fun e => q ((iv_lt ha hb).mpr e)) hm hn H locs ls hl hp hs)
theorem f_lt (hZ : Cx X y d Z) {a : Int} {off : Int} {tgt : Nat} (hd : decode y.2.1 pc = .ok (.ifCond .lt off, 3)) (ht : (pc : Int) + off = (tgt : Int)) (ha : rg a) (kt : a < 0 → fG X y Z tgt L st M) (kf : ¬ a < 0 → fG X y Z (pc + 3) L st M) : fG X y Z pc L (.int (iv a) :: st) M := fun hm hn H locs ls hl hp hs => lv_if_lt hZ.ex hZ.by hd ht (fun q => kt (by rw [← iv_0] at q; exact (iv_lt ha rg_0).mp q) hm hn H locs ls hl hp hs) (fun q => kf (fun e => q (by rw [← iv_0]; exact (iv_lt ha rg_0).mpr e)) hm hn H locs ls hl hp hs)
theorem f_ige (hZ : Cx X y d Z) {a b : Int} {off : Int} {tgt : Nat} (hd : decode y.2.1 pc = .ok (.if_icmp .ge off, 3)) (ht : (pc : Int) + off = (tgt : Int)) (ha : rg a) (hb : rg b) (kt : b ≤ a → fG X y Z tgt L st M) (kf : ¬ b ≤ a → fG X y Z (pc + 3) L st M) : fG X y Z pc L (.int (iv b) :: .int (iv a) :: st) M := fun hm hn H locs ls hl hp hs => lv_icmp_ge hZ.ex hZ.by hd ht (fun q => kt ((iv_le hb ha).mp q) hm hn H locs ls hl hp hs) (fun q => kf (fun e => q ((iv_le hb ha).mpr e)) hm hn H locs ls hl hp hs)
theorem f_ge (hZ : Cx X y d Z) {a : Int} {off : Int} {tgt : Nat} (hd : decode y.2.1 pc = .ok (.ifCond .ge off, 3)) (ht : (pc : Int) + off = (tgt : Int)) (ha : rg a) (kt : 0 ≤ a → fG X y Z tgt L st M) (kf : ¬ 0 ≤ a → fG X y Z (pc + 3) L st M) : fG X y Z pc L (.int (iv a) :: st) M := fun hm hn H locs ls hl hp hs => lv_if_ge hZ.ex hZ.by hd ht (fun q => kt (by rw [← iv_0] at q; exact (iv_le rg_0 ha).mp q) hm hn H locs ls hl hp hs) (fun q => kf (fun e => q (by rw [← iv_0]; exact (iv_le rg_0 ha).mpr e)) hm hn H locs ls hl hp hs)
theorem f_igt (hZ : Cx X y d Z) {a b : Int} {off : Int} {tgt : Nat} (hd : decode y.2.1 pc = .ok (.if_icmp .gt off, 3)) (ht : (pc : Int) + off = (tgt : Int)) (ha : rg a) (hb : rg b) (kt : b < a → fG X y Z tgt L st M) (kf : ¬ b < a → fG X y Z (pc + 3) L st M) : fG X y Z pc L (.int (iv b) :: .int (iv a) :: st) M := fun hm hn H locs ls hl hp hs => lv_icmp_gt hZ.ex hZ.by hd ht (fun q => kt ((iv_lt hb ha).mp q) hm hn H locs ls hl hp hs) (fun q => kf (fun e => q ((iv_lt hb ha).mpr e)) hm hn H locs ls hl hp hs)
theorem f_gt (hZ : Cx X y d Z) {a : Int} {off : Int} {tgt : Nat} (hd : decode y.2.1 pc = .ok (.ifCond .gt off, 3)) (ht : (pc : Int) + off = (tgt : Int)) (ha : rg a) (kt : 0 < a → fG X y Z tgt L st M) (kf : ¬ 0 < a → fG X y Z (pc + 3) L st M) : fG X y Z pc L (.int (iv a) :: st) M := fun hm hn H locs ls hl hp hs => lv_if_gt hZ.ex hZ.by hd ht (fun q => kt (by rw [← iv_0] at q; exact (iv_lt rg_0 ha).mp q) hm hn H locs ls hl hp hs) (fun q => kf (fun e => q (by rw [← iv_0]; exact (iv_lt rg_0 ha).mpr e)) hm hn H locs ls hl hp hs)
theorem f_ile (hZ : Cx X y d Z) {a b : Int} {off : Int} {tgt : Nat} (hd : decode y.2.1 pc = .ok (.if_icmp .le off, 3)) (ht : (pc : Int) + off = (tgt : Int)) (ha : rg a) (hb : rg b) (kt : a ≤ b → fG X y Z tgt L st M) (kf : ¬ a ≤ b → fG X y Z (pc + 3) L st M) : fG X y Z pc L (.int (iv b) :: .int (iv a) :: st) M := fun hm hn H locs ls hl hp hs => lv_icmp_le hZ.ex hZ.by hd ht (fun q => kt ((iv_le ha hb).mp q) hm hn H locs ls hl hp hs) (fun q => kf (fun e => q ((iv_le ha hb).mpr e)) hm hn H locs ls hl hp hs)
theorem f_le (hZ : Cx X y d Z) {a : Int} {off : Int} {tgt : Nat} (hd : decode y.2.1 pc = .ok (.ifCond .le off, 3)) (ht : (pc : Int) + off = (tgt : Int)) (ha : rg a) (kt : a ≤ 0 → fG X y Z tgt L st M) (kf : ¬ a ≤ 0 → fG X y Z (pc + 3) L st M) : fG X y Z pc L (.int (iv a) :: st) M := fun hm hn H locs ls hl hp hs => lv_if_le hZ.ex hZ.by hd ht (fun q => kt (by rw [← iv_0] at q; exact (iv_le ha rg_0).mp q) hm hn H locs ls hl hp hs) (fun q => kf (fun e => q (by rw [← iv_0]; exact (iv_le ha rg_0).mpr e)) hm hn H locs ls hl hp hs)
theorem f_goto (hZ : Cx X y d Z) {off : Int} {tgt : Nat} (hd : decode y.2.1 pc = .ok (.goto off, 3)) (ht : (pc : Int) + off = (tgt : Int)) (k : fG X y Z tgt L st M) : fG X y Z pc L st M := fun hm hn H locs ls hl hp hs => lv_goto hZ.ex hZ.by hd ht (k hm hn H locs ls hl hp hs)
theorem f_tswIn (hZ : Cx X y d Z) {a dflt lo hi off : Int} {offs : Array Int} {len : Nat} {tgt : Nat} (j : Int) (hd : decode y.2.1 pc = .ok (.tableswitch dflt lo hi offs, len)) (ha : a = j) (hj : rg j) (h1 : lo ≤ j) (h2 : j ≤ hi) (ho : offs[(j - lo).toNat]? = some off) (ht : (pc : Int) + off = (tgt : Int)) (k : fG X y Z tgt L st M) : fG X y Z pc L (.int (iv a) :: st) M := fun hm hn H locs ls hl hp hs => by
  subst ha
  exact lv_tableIn hZ.ex hZ.by hd (by rw [iv_toInt hj]; omega) (by rw [iv_toInt hj]; omega) (by rw [iv_toInt hj]; exact ho) ht (k hm hn H locs ls hl hp hs)
theorem f_tswOut (hZ : Cx X y d Z) {a dflt lo hi : Int} {offs : Array Int} {len : Nat} {tgt : Nat} (hd : decode y.2.1 pc = .ok (.tableswitch dflt lo hi offs, len)) (ha : rg a) (h : a < lo ∨ hi < a) (ht : (pc : Int) + dflt = (tgt : Int)) (k : fG X y Z tgt L st M) : fG X y Z pc L (.int (iv a) :: st) M := fun hm hn H locs ls hl hp hs => lv_tableOut hZ.ex hZ.by hd (by rw [iv_toInt ha]; exact h) ht (k hm hn H locs ls hl hp hs)
theorem ce_int {X : fX} {f : Int → Int} {n : Nat} {fs : List (Nat × Nat × Nat)} {c : Nat} (h : lay c = (0, n, fs)) : ce X f (lay c) = .inl (xI X, n, .inl (fun j => iv (f j))) := by rw [h]; rfl
theorem ce_bool {X : fX} {f : Int → Int} {n : Nat} {fs : List (Nat × Nat × Nat)} {c : Nat} (h : lay c = (1, n, fs)) : ce X f (lay c) = .inl (xZ X, n, .inl (fun j => iv (f j))) := by rw [h]; rfl
theorem ce_rows {X : fX} {f : Int → Int} {n b p q : Nat} {c : Nat} (h : lay c = (2, n, [(b, p, q)])) : ce X f (lay c) = .inl (xA X, n, .inr (.inr (.inr (.inr (fun j => if j < n then some (xa X (b + j)) else none))))) := by rw [h]; rfl
theorem ce_obj {X : fX} {f : Int → Int} {n : Nat} {fs : List (Nat × Nat × Nat)} {c : Nat} (h : lay c = (3, n, fs)) : ce X f (lay c) = .inr (n, fs.map (fval X f)) := by rw [h]; rfl
theorem lay_n {c k n : Nat} {fs : List (Nat × Nat × Nat)} (hc : c < nC) (h : lay c = (k, n, fs)) : (n : Int) < 2147483648 := by have := lay_small c hc; rw [h] at this; exact Int.ofNat_lt.mpr this
theorem ws_atI {X : fX} {M : fM} {c n : Nat} {fs : List (Nat × Nat × Nat)} (hc : c < nC) (h : lay c = (0, n, fs)) : (wsOf X M)[c]? = some (xa X c, .inl (xI X, n, .inl (fun j => iv (M c j)))) := by rw [ws_at hc, ce_int h]
theorem up_ne {M : fM} {c k : Nat} {i v : Int} (h : k ≠ c) : up M c i v k = M k := by funext i'; unfold up; rw [if_neg (fun q => h q.1)]
theorem up_upd {M : fM} {c : Nat} {i v : Int} (h0 : 0 ≤ i) (x : Nat) (hx : x = i.toNat) : (fun j : Nat => iv (up M c i v c j)) = upd (fun j : Nat => iv (M c j)) x (iv v) := by
  funext j
  unfold up upd
  by_cases e : j = x
  · rw [if_pos e, if_pos ⟨rfl, by omega⟩]
  · rw [if_neg e, if_neg (fun q => e (by omega))]
theorem f_iaload (hZ : Cx X y d Z) {c n : Nat} {fs : List (Nat × Nat × Nat)} {i : Int} (hd : decode y.2.1 pc = .ok (.iaload, 1)) (hc : decide (c < nC) = true) (hy : lay c = (0, n, fs)) (h0 : 0 ≤ i) (h1 : i < n) (k : rg (M c i) → fG X y Z (pc + 1) L (.int (iv (M c i)) :: st) M) : fG X y Z pc L (.int (iv i) :: .ref (xa X c) :: st) M := fun hm hn H locs ls hl hp hs => by
  have hc := of_decide_eq_true hc
  have hN := lay_n hc hy
  refine va_iald hZ.ex hZ.by hZ.K hp c 0 (ws_atI hc hy) rfl (iv_in h0 h1 hN) hd ?_
  rw [iv_clamp h0 ⟨by omega, by omega⟩, Int.toNat_of_nonneg h0]
  exact k (hm c i) hm hn H locs ls hl hp hs
theorem f_iastore (hZ : Cx X y d Z) {c n : Nat} {fs : List (Nat × Nat × Nat)} {i v : Int} (hd : decode y.2.1 pc = .ok (.iastore, 1)) (hc : decide (c < nC) = true) (hy : lay c = (0, n, fs)) (h0 : 0 ≤ i) (h1 : i < n) (hv : rg v) (k : fG X y Z (pc + 1) L st (up M c i v)) : fG X y Z pc L (.int (iv v) :: .int (iv i) :: .ref (xa X c) :: st) M := fun hm hn H locs ls hl hp hs => by
  have hc := of_decide_eq_true hc
  have hN := lay_n hc hy
  refine va_iast hZ.ex hZ.by hZ.K hp hZ.D hs c 0 (ws_atI hc hy) rfl (iv_in h0 h1 hN) hd (fun H1 locs1 hp1 _ hs1 => ?_)
  rw [ws_set (M' := up M c i v) hc (fun k hk => up_ne hk) (by rw [ce_int hy, up_upd h0 _ (iv_clamp h0 ⟨by omega, by omega⟩)])] at hp1
  exact k (Can_up hm hv) hn H1 locs1 ls hl hp1 hs1
theorem f_baload (hZ : Cx X y d Z) {c n : Nat} {fs : List (Nat × Nat × Nat)} {i : Int} (hd : decode y.2.1 pc = .ok (.baload, 1)) (hc : decide (c < nC) = true) (hy : lay c = (1, n, fs)) (h0 : 0 ≤ i) (h1 : i < n) (k : rg (M c i) → fG X y Z (pc + 1) L (.int (iv (M c i)) :: st) M) : fG X y Z pc L (.int (iv i) :: .ref (xa X c) :: st) M := fun hm hn H locs ls hl hp hs => by
  have hc := of_decide_eq_true hc
  have hN := lay_n hc hy
  refine va_zald hZ.ex hZ.by hZ.K hp c 1 (by rw [ws_at hc, ce_bool hy]) rfl (iv_in h0 h1 hN) hd ?_
  rw [iv_clamp h0 ⟨by omega, by omega⟩, Int.toNat_of_nonneg h0]
  exact k (hm c i) hm hn H locs ls hl hp hs
theorem f_bastore (hZ : Cx X y d Z) {c n : Nat} {fs : List (Nat × Nat × Nat)} {i v : Int} (hd : decode y.2.1 pc = .ok (.bastore, 1)) (hc : decide (c < nC) = true) (hy : lay c = (1, n, fs)) (h0 : 0 ≤ i) (h1 : i < n) (hv : v = 0 ∨ v = 1) (k : fG X y Z (pc + 1) L st (up M c i v)) : fG X y Z pc L (.int (iv v) :: .int (iv i) :: .ref (xa X c) :: st) M := fun hm hn H locs ls hl hp hs => by
  have hc := of_decide_eq_true hc
  have hN := lay_n hc hy
  have hnar : vp_nar .boolean (iv v) = iv v := by rcases hv with rfl | rfl <;> decide
  refine va_zast hZ.ex hZ.by hZ.K hp hZ.D hs c 1 (by rw [ws_at hc, ce_bool hy]) rfl (iv_in h0 h1 hN) hd (fun H1 locs1 hp1 _ hs1 => ?_)
  rw [hnar, ws_set (M' := up M c i v) hc (fun k hk => up_ne hk) (by rw [ce_bool hy, up_upd h0 _ (iv_clamp h0 ⟨by omega, by omega⟩)])] at hp1
  exact k (Can_up hm (by omega)) hn H1 locs1 ls hl hp1 hs1
theorem f_aaload (hZ : Cx X y d Z) {c n b p q : Nat} {i : Int} (hd : decode y.2.1 pc = .ok (.aaload, 1)) (hc : decide (c < nC) = true) (hy : lay c = (2, n, [(b, p, q)])) (h0 : 0 ≤ i) (h1 : i < n) (k : fG X y Z (pc + 1) L (.ref (xa X (b + i.toNat)) :: st) M) : fG X y Z pc L (.int (iv i) :: .ref (xa X c) :: st) M := fun hm hn H locs ls hl hp hs => by
  have hc := of_decide_eq_true hc
  have hN := lay_n hc hy
  have hlt : (iv i).toNatClampNeg < n := by rw [iv_clamp h0 ⟨by omega, by omega⟩]; omega
  have ha : (wsOf X M)[c]? = some (xa X c, .inl (xA X, n, .inr (.inr (.inr (.inr (fun j => if j < n then some (xa X (b + j)) else none)))))) := by rw [ws_at hc, ce_rows hy]
  refine W.aald (v := va_rf ((fun j => if j < n then some (xa X (b + j)) else none) (iv i).toNatClampNeg)) (ty := .array .int) hZ.ex hZ.by (hp c _ ha) ((hZ.K.2 2 _ rfl).1 n (fun j => va_rf ((fun j => if j < n then some (xa X (b + j)) else none) j))) rfl (fun q => by cases q) (by show ¬ (iv i < 0 ∨ (arrV _ _ _).slots.size ≤ _); rw [arrV_size]; exact iv_in h0 h1 hN) (by show (arrV _ _ _).slots[_]? = _; rw [arrV_read _ _ hlt]) rfl rfl hd ?_
  show W _ _ _ _ _ _ _ _ _ _ _ _ _ _ _ (F0 _ (pc + 1) ls (va_rf (if (iv i).toNatClampNeg < n then _ else _) :: st))
  rw [if_pos hlt, iv_clamp h0 ⟨by omega, by omega⟩]
  exact k hm hn H locs ls hl hp hs
theorem f_alen (hZ : Cx X y d Z) {c n : Nat} {fs : List (Nat × Nat × Nat)} (hd : decode y.2.1 pc = .ok (.arraylength, 1)) (hc : decide (c < nC) = true) (hy : lay c = (0, n, fs)) (k : fG X y Z (pc + 1) L (.int (iv (n : Int)) :: st) M) : fG X y Z pc L (.ref (xa X c) :: st) M := fun hm hn H locs ls hl hp hs =>
  va_alen hZ.ex hZ.by hZ.K hp c 0 (ws_atI (of_decide_eq_true hc) hy) (ty := .int) rfl (iv_ofNat n) hd (k hm hn H locs ls hl hp hs)
theorem f_above (hZ : Cx X y d Z) {i : Int} (hd : decode y.2.1 pc = .ok (.iaload, 1)) (h0 : 0 ≤ i) (h1 : i < 6) (k : fG X y Z (pc + 1) L (.int (iv (aboveL.getD i.toNat 0)) :: st) M) : fG X y Z pc L (.int (iv i) :: .ref (xT X) :: st) M := fun hm hn H locs ls hl hp hs =>
  va_ti hZ.ex hZ.by hZ.S.2.1 hs (iv_in h0 h1 (by omega)) (v := .int (iv (aboveL.getD i.toNat 0))) (by rw [iv_clamp h0 ⟨by omega, by omega⟩]) hd (k hm hn H locs ls hl hp hs)
theorem f_getAbove (hZ : Cx X y d Z) {ix : Nat} (hd : decode y.2.1 pc = .ok (.getstatic ix, 3)) (hw : Cond.fieldLink y.1.cls ix "ByTheFlame" "ABOVE" "[I" ∈ tb) (k : fG X y Z (pc + 3) L (.ref (xT X) :: st) M) : fG X y Z pc L st M := fun hm hn H locs ls hl hp hs =>
  va_gets hZ.ex hZ.by hZ.S.1 hs hZ.own (hZ.ts _ hw) (fun _ h => h) hd (k hm hn H locs ls hl hp hs)
theorem fld_at {X : fX} {f : Int → Int} {fs : List (Nat × Nat × Nat)} {k : Nat} {q : Nat × Nat × Nat} (h : fs[k]? = some q) : (fs.map (fval X f))[k]? = some (fval X f q) := by rw [List.getElem?_map, h]; rfl
theorem f_getI (hZ : Cx X y d Z) {c ci k ix N t : Nat} {T : u_T} {C : String} {fs : List (Nat × Nat × Nat)} (hd : decode y.2.1 pc = .ok (.getfield ix, 3)) (hcl : vwCl[ci]? = some (C, T, N)) (hk : k < N) (hin : ∀ w ∈ u_ws C T N, w ∈ tb) (hw : Cond.fieldLink y.1.cls ix (T k).1 (T k).2.1 (T k).2.2.1 ∈ tb) (hc : decide (c < nC) = true) (hy : lay c = (3, ci, fs)) (hf : fs[k]? = some (k, 0, t)) (kk : rg (M c k) → fG X y Z (pc + 3) L (.int (iv (M c k)) :: st) M) : fG X y Z pc L (.ref (xa X c) :: st) M := fun hm hn H locs ls hl hp hs =>
  va_get hZ.ex hZ.by hZ.ts hin hZ.own hZ.K hp c (by rw [ws_at (of_decide_eq_true hc), ce_obj hy]) hcl k hk (hZ.ts _ hw) (fun _ h => h) (fld_at hf) hd (kk (hm c k) hm hn H locs ls hl hp hs)
theorem f_getR (hZ : Cx X y d Z) {c ci k ix N t : Nat} {T : u_T} {C : String} {fs : List (Nat × Nat × Nat)} (hd : decode y.2.1 pc = .ok (.getfield ix, 3)) (hcl : vwCl[ci]? = some (C, T, N)) (hk : k < N) (hin : ∀ w ∈ u_ws C T N, w ∈ tb) (hw : Cond.fieldLink y.1.cls ix (T k).1 (T k).2.1 (T k).2.2.1 ∈ tb) (hc : decide (c < nC) = true) (hy : lay c = (3, ci, fs)) (hf : fs[k]? = some (k, 1, t)) (kk : fG X y Z (pc + 3) L (.ref (xa X t) :: st) M) : fG X y Z pc L (.ref (xa X c) :: st) M := fun hm hn H locs ls hl hp hs =>
  va_get hZ.ex hZ.by hZ.ts hin hZ.own hZ.K hp c (by rw [ws_at (of_decide_eq_true hc), ce_obj hy]) hcl k hk (hZ.ts _ hw) (fun _ h => h) (fld_at hf) hd (kk hm hn H locs ls hl hp hs)
theorem f_getJ (hZ : Cx X y d Z) {c ci k ix N t : Nat} {T : u_T} {C : String} {fs : List (Nat × Nat × Nat)} (hd : decode y.2.1 pc = .ok (.getfield ix, 3)) (hcl : vwCl[ci]? = some (C, T, N)) (hk : k < N) (hin : ∀ w ∈ u_ws C T N, w ∈ tb) (hw : Cond.fieldLink y.1.cls ix (T k).1 (T k).2.1 (T k).2.2.1 ∈ tb) (hc : decide (c < nC) = true) (hy : lay c = (3, ci, fs)) (hf : fs[k]? = some (k, 2, t)) (kk : rg (M c k) → fG X y Z (pc + 3) L (.long (jv (M c k)) :: st) M) : fG X y Z pc L (.ref (xa X c) :: st) M := fun hm hn H locs ls hl hp hs =>
  va_get hZ.ex hZ.by hZ.ts hin hZ.own hZ.K hp c (by rw [ws_at (of_decide_eq_true hc), ce_obj hy]) hcl k hk (hZ.ts _ hw) (fun _ h => h) (fld_at hf) hd (kk (hm c k) hm hn H locs ls hl hp hs)
theorem f_getM (hZ : Cx X y d Z) {c ci k ix N t : Nat} {T : u_T} {C : String} {fs : List (Nat × Nat × Nat)} (hd : decode y.2.1 pc = .ok (.getfield ix, 3)) (hcl : vwCl[ci]? = some (C, T, N)) (hk : k < N) (hin : ∀ w ∈ u_ws C T N, w ∈ tb) (hw : Cond.fieldLink y.1.cls ix (T k).1 (T k).2.1 (T k).2.2.1 ∈ tb) (hc : decide (c < nC) = true) (hy : lay c = (3, ci, fs)) (hf : fs[k]? = some (k, 3, t)) (kk : fG X y Z (pc + 3) L (.ref (xa X (M c k).toNat) :: st) M) : fG X y Z pc L (.ref (xa X c) :: st) M := fun hm hn H locs ls hl hp hs =>
  va_get hZ.ex hZ.by hZ.ts hin hZ.own hZ.K hp c (by rw [ws_at (of_decide_eq_true hc), ce_obj hy]) hcl k hk (hZ.ts _ hw) (fun _ h => h) (fld_at hf) hd (kk hm hn H locs ls hl hp hs)
theorem fld_set {X : fX} {M : fM} {c k : Nat} {v : Int} {x : Value} : ∀ {fs : List (Nat × Nat × Nat)} (_ : fs.Pairwise (fun a b => a.1 ≠ b.1)) {q : Nat × Nat × Nat} (i : Nat) (_ : fs[i]? = some q) (_ : q.1 = k) (_ : fval X (up M c k v c) q = x), fs.map (fval X (up M c k v c)) = (fs.map (fval X (M c))).set i x := by
  intro fs hpw q i hq hk hx
  apply List.ext_getElem?
  intro j
  rw [List.getElem?_set, List.getElem?_map, List.getElem?_map]
  by_cases e : i = j
  · subst e
    rw [if_pos rfl, hq, if_pos (by rw [List.length_map]; exact (List.getElem?_eq_some_iff.mp hq).1)]
    exact congrArg some hx
  · rw [if_neg e]
    cases hj : fs[j]? with
    | none => rfl
    | some p =>
      show some (fval X (up M c k v c) p) = some (fval X (M c) p)
      have hne : p.1 ≠ k := by
        intro h
        obtain ⟨h1, e1⟩ := List.getElem?_eq_some_iff.mp hq
        obtain ⟨h2, e2⟩ := List.getElem?_eq_some_iff.mp hj
        rcases Nat.lt_or_gt_of_ne e with hlt | hlt
        · exact (List.pairwise_iff_getElem.mp hpw i j h1 h2 hlt) (by rw [e1, e2, hk, h])
        · exact (List.pairwise_iff_getElem.mp hpw j i h2 h1 hlt) (by rw [e1, e2, hk, h])
      have e3 : up M c k v c p.1 = M c p.1 := by unfold up; rw [if_neg (fun z => hne (by exact_mod_cast z.2))]
      unfold fval
      rw [e3]
theorem lay_pw : ∀ c, c < nC → (lay c).2.2.Pairwise (fun a b => a.1 ≠ b.1) := by decide +kernel
theorem f_putI (hZ : Cx X y d Z) {c ci k ix N t : Nat} {T : u_T} {C : String} {fs : List (Nat × Nat × Nat)} (ty : Nat → FieldType) (hty : ∀ k, k < N → parseFieldDescriptor (T k).2.2.1 = some (ty k)) (hnm : ∀ a, a < N → ∀ b, b < N → a ≠ b → (T a).2.1 ≠ (T b).2.1) (hd : decode y.2.1 pc = .ok (.putfield ix, 3)) (hcl : vwCl[ci]? = some (C, T, N)) (hk : k < N) (hin : ∀ w ∈ u_ws C T N, w ∈ tb) (hw : Cond.fieldLink y.1.cls ix (T k).1 (T k).2.1 (T k).2.2.1 ∈ tb) (hfin : (T k).2.2.2 = false) (hc : decide (c < nC) = true) (hy : lay c = (3, ci, fs)) (hf : fs[k]? = some (k, 0, t)) {v : Int} (hv : rg v) (ht : ty k = .int) (kk : fG X y Z (pc + 3) L st (up M c k v)) : fG X y Z pc L (.int (iv v) :: .ref (xa X c) :: st) M := fun hm hn H locs ls hl hp hs => by
  have hc := of_decide_eq_true hc
  have hpw := lay_pw c hc
  rw [hy] at hpw
  refine va_put hZ.ex hZ.by hZ.ts hin ty hty hnm hZ.own hZ.K hp hZ.D hs c (by rw [ws_at hc, ce_obj hy]) hcl k hk (hZ.ts _ hw) (fun _ h => h) hfin (hty k hk) (by rw [ht]; rfl) (by rw [ht]; rfl) (by rw [List.length_map]; exact (List.getElem?_eq_some_iff.mp hf).1) hd (fun H1 locs1 hp1 _ hs1 => ?_)
  rw [ws_set (M' := up M c k v) hc (fun j hj => up_ne hj) (by rw [ce_obj hy, fld_set hpw k hf rfl (x := .int (iv v)) (by simp [fval, up, *])])] at hp1
  exact kk (Can_up hm (hv)) hn H1 locs1 ls hl hp1 hs1
theorem f_putZ (hZ : Cx X y d Z) {c ci k ix N t : Nat} {T : u_T} {C : String} {fs : List (Nat × Nat × Nat)} (ty : Nat → FieldType) (hty : ∀ k, k < N → parseFieldDescriptor (T k).2.2.1 = some (ty k)) (hnm : ∀ a, a < N → ∀ b, b < N → a ≠ b → (T a).2.1 ≠ (T b).2.1) (hd : decode y.2.1 pc = .ok (.putfield ix, 3)) (hcl : vwCl[ci]? = some (C, T, N)) (hk : k < N) (hin : ∀ w ∈ u_ws C T N, w ∈ tb) (hw : Cond.fieldLink y.1.cls ix (T k).1 (T k).2.1 (T k).2.2.1 ∈ tb) (hfin : (T k).2.2.2 = false) (hc : decide (c < nC) = true) (hy : lay c = (3, ci, fs)) (hf : fs[k]? = some (k, 0, t)) {v : Int} (hv : v = 0 ∨ v = 1) (ht : ty k = .boolean) (kk : fG X y Z (pc + 3) L st (up M c k v)) : fG X y Z pc L (.int (iv v) :: .ref (xa X c) :: st) M := fun hm hn H locs ls hl hp hs => by
  have hc := of_decide_eq_true hc
  have hpw := lay_pw c hc
  rw [hy] at hpw
  refine va_put hZ.ex hZ.by hZ.ts hin ty hty hnm hZ.own hZ.K hp hZ.D hs c (by rw [ws_at hc, ce_obj hy]) hcl k hk (hZ.ts _ hw) (fun _ h => h) hfin (hty k hk) (by rw [ht]; rcases hv with rfl | rfl <;> rfl) (by rw [ht]; rcases hv with rfl | rfl <;> rfl) (by rw [List.length_map]; exact (List.getElem?_eq_some_iff.mp hf).1) hd (fun H1 locs1 hp1 _ hs1 => ?_)
  rw [ws_set (M' := up M c k v) hc (fun j hj => up_ne hj) (by rw [ce_obj hy, fld_set hpw k hf rfl (x := .int (iv v)) (by simp [fval, up, *])])] at hp1
  exact kk (Can_up hm (by omega)) hn H1 locs1 ls hl hp1 hs1
theorem f_putJ (hZ : Cx X y d Z) {c ci k ix N t : Nat} {T : u_T} {C : String} {fs : List (Nat × Nat × Nat)} (ty : Nat → FieldType) (hty : ∀ k, k < N → parseFieldDescriptor (T k).2.2.1 = some (ty k)) (hnm : ∀ a, a < N → ∀ b, b < N → a ≠ b → (T a).2.1 ≠ (T b).2.1) (hd : decode y.2.1 pc = .ok (.putfield ix, 3)) (hcl : vwCl[ci]? = some (C, T, N)) (hk : k < N) (hin : ∀ w ∈ u_ws C T N, w ∈ tb) (hw : Cond.fieldLink y.1.cls ix (T k).1 (T k).2.1 (T k).2.2.1 ∈ tb) (hfin : (T k).2.2.2 = false) (hc : decide (c < nC) = true) (hy : lay c = (3, ci, fs)) (hf : fs[k]? = some (k, 2, t)) {v : Int} (hv : rg v) (ht : ty k = .long) (kk : fG X y Z (pc + 3) L st (up M c k v)) : fG X y Z pc L (.long (jv v) :: .ref (xa X c) :: st) M := fun hm hn H locs ls hl hp hs => by
  have hc := of_decide_eq_true hc
  have hpw := lay_pw c hc
  rw [hy] at hpw
  refine va_put hZ.ex hZ.by hZ.ts hin ty hty hnm hZ.own hZ.K hp hZ.D hs c (by rw [ws_at hc, ce_obj hy]) hcl k hk (hZ.ts _ hw) (fun _ h => h) hfin (hty k hk) (by rw [ht]; rfl) (by rw [ht]; rfl) (by rw [List.length_map]; exact (List.getElem?_eq_some_iff.mp hf).1) hd (fun H1 locs1 hp1 _ hs1 => ?_)
  rw [ws_set (M' := up M c k v) hc (fun j hj => up_ne hj) (by rw [ce_obj hy, fld_set hpw k hf rfl (x := .long (jv v)) (by simp [fval, up, *])])] at hp1
  exact kk (Can_up hm (hv)) hn H1 locs1 ls hl hp1 hs1
theorem f_putM (hZ : Cx X y d Z) {c ci k ix N t : Nat} {T : u_T} {C : String} {fs : List (Nat × Nat × Nat)} (ty : Nat → FieldType) (hty : ∀ k, k < N → parseFieldDescriptor (T k).2.2.1 = some (ty k)) (hnm : ∀ a, a < N → ∀ b, b < N → a ≠ b → (T a).2.1 ≠ (T b).2.1) (hd : decode y.2.1 pc = .ok (.putfield ix, 3)) (hcl : vwCl[ci]? = some (C, T, N)) (hk : k < N) (hin : ∀ w ∈ u_ws C T N, w ∈ tb) (hw : Cond.fieldLink y.1.cls ix (T k).1 (T k).2.1 (T k).2.2.1 ∈ tb) (hfin : (T k).2.2.2 = false) (hc : decide (c < nC) = true) (hy : lay c = (3, ci, fs)) (hf : fs[k]? = some (k, 3, t)) {v : Int} {j : Nat} (hj : v = (j : Int)) (hv : rg v) (ht : ty k = .array .int) (kk : fG X y Z (pc + 3) L st (up M c k v)) : fG X y Z pc L (.ref (xa X j) :: .ref (xa X c) :: st) M := fun hm hn H locs ls hl hp hs => by
  have hc := of_decide_eq_true hc
  have hpw := lay_pw c hc
  rw [hy] at hpw
  refine va_put hZ.ex hZ.by hZ.ts hin ty hty hnm hZ.own hZ.K hp hZ.D hs c (by rw [ws_at hc, ce_obj hy]) hcl k hk (hZ.ts _ hw) (fun _ h => h) hfin (hty k hk) (by rw [ht]; rfl) (by rw [ht]; rfl) (by rw [List.length_map]; exact (List.getElem?_eq_some_iff.mp hf).1) hd (fun H1 locs1 hp1 _ hs1 => ?_)
  rw [ws_set (M' := up M c k v) hc (fun j hj => up_ne hj) (by rw [ce_obj hy, fld_set hpw k hf rfl (x := .ref (xa X j)) (by simp [fval, up, *])])] at hp1
  exact kk (Can_up hm (hv)) hn H1 locs1 ls hl hp1 hs1
theorem f_iret (hZ : Cx X y d Z) {Q : Option Value → fM → Prop} (hR : Rt X y Q Z) {x : Int32} {ty : FieldType} (hd : decode y.2.1 pc = .ok (.ireturn, 1)) (hty : y.2.2.2 = some ty) (hnar : narrow ty (.int x) = .int x) (hq : Q (some (.int x)) M) : fG X y Z pc L [.int x] M := fun hm hn H locs ls hl hp hs => by
  obtain ⟨h1, h2, h3, h4, h5, h6⟩ := hR
  rw [h6]
  rw [h5] at hs
  rw [h3, h4]
  exact W.zret (ty := ty) hZ.ex hZ.by (by rw [h1, hty]) hnar (fun t ht _ => ⟨_, M, rfl, hq, hm, by rw [ht]; exact hp, hs.F ht⟩) (fun q hq => hs.2.2 q hq) hd h2
theorem f_lret (hZ : Cx X y d Z) {Q : Option Value → fM → Prop} (hR : Rt X y Q Z) {x : Int64} (hd : decode y.2.1 pc = .ok (.lreturn, 1)) (hty : y.2.2.2 = some .long) (hq : Q (some (.long x)) M) : fG X y Z pc L [.long x] M := fun hm hn H locs ls hl hp hs => by
  obtain ⟨h1, h2, h3, h4, h5, h6⟩ := hR
  rw [h6]
  rw [h5] at hs
  rw [h3, h4]
  exact W.lret hZ.ex hZ.by (by rw [h1, hty]) (fun t ht _ => ⟨_, M, rfl, hq, hm, by rw [ht]; exact hp, hs.F ht⟩) (fun q hq => hs.2.2 q hq) hd h2
theorem f_vret (hZ : Cx X y d Z) {Q : Option Value → fM → Prop} (hR : Rt X y Q Z) (hd : decode y.2.1 pc = .ok (.return_, 1)) (hty : y.2.2.2 = none) (hq : Q none M) : fG X y Z pc L [] M := fun hm hn H locs ls hl hp hs => by
  obtain ⟨h1, h2, h3, h4, h5, h6⟩ := hR
  rw [h6]
  rw [h5] at hs
  rw [h3, h4]
  exact W.vret hZ.ex hZ.by (by rw [h1, hty]) (fun t ht _ => ⟨_, M, rfl, hq, hm, by rw [ht]; exact hp, hs.F ht⟩) (fun q hq => hs.2.2 q hq) hd h2
theorem f_retI (hZ : Cx X y d Z) {P : Int → fM → Prop} (hR : Rt X y (QI P) Z) {a : Int} (hd : decode y.2.1 pc = .ok (.ireturn, 1)) (hty : y.2.2.2 = some .int) (ha : rg a) (hq : P a M) : fG X y Z pc L [.int (iv a)] M := f_iret hZ hR hd hty rfl ⟨a, rfl, ha, hq⟩
theorem f_retW (hZ : Cx X y d Z) {P : Int → fM → Prop} (hR : Rt X y (QI P) Z) {a : Int} (hd : decode y.2.1 pc = .ok (.ireturn, 1)) (hty : y.2.2.2 = some .int) (hq : P (iv a).toInt M) : fG X y Z pc L [.int (iv a)] M := f_iret hZ hR hd hty rfl ⟨(iv a).toInt, by rw [iv_of], rg_of _, hq⟩
theorem f_retZ (hZ : Cx X y d Z) {P : Int → fM → Prop} (hR : Rt X y (QI P) Z) {a : Int} (hd : decode y.2.1 pc = .ok (.ireturn, 1)) (hty : y.2.2.2 = some .boolean) (ha : a = 0 ∨ a = 1) (hq : P a M) : fG X y Z pc L [.int (iv a)] M := f_iret hZ hR hd hty (by rcases ha with rfl | rfl <;> rfl) ⟨a, rfl, by omega, hq⟩
theorem f_retJ (hZ : Cx X y d Z) {P : Int → fM → Prop} (hR : Rt X y (QJ P) Z) {a : Int} (hd : decode y.2.1 pc = .ok (.lreturn, 1)) (hty : y.2.2.2 = some .long) (ha : rj a) (hq : P a M) : fG X y Z pc L [.long (jv a)] M := f_lret hZ hR hd hty ⟨a, rfl, ha, hq⟩
theorem f_retV (hZ : Cx X y d Z) {P : fM → Prop} (hR : Rt X y (QV P) Z) (hd : decode y.2.1 pc = .ok (.return_, 1)) (hty : y.2.2.2 = none) (hq : P M) : fG X y Z pc L [] M := f_vret hZ hR hd hty ⟨rfl, hq⟩
end Rules
