/-! the words' texts -/
def wlen (i : Nat) : Nat := (wordL.getD i []).length
def wch (i : Nat) (k : Int) : Int := ((wordL.getD i []).getD k.toNat 0).toInt
def i2c (a : Int) : Int := ((iv a).toUInt32 % 65536).toInt32.toInt
theorem wch_all : ∀ i, i < 12 → ∀ k : Nat, k < wlen i → i2c (andI (wch i k) 255) = wch i k ∧ 97 ≤ wch i k ∧ wch i k ≤ 122 ∧ ((iv (wch i k)).toUInt32 % 65536).toInt32 = iv (wch i k) := by decide +kernel
theorem wlen_all : ∀ i, i < 12 → wlen i < 6 ∧ 0 < wlen i := by decide +kernel
theorem wch_at {i : Nat} {k : Int} (hi : i < 12) (h0 : 0 ≤ k) (h1 : k < wlen i) : i2c (andI (wch i k) 255) = wch i k ∧ 97 ≤ wch i k ∧ wch i k ≤ 122 ∧ ((iv (wch i k)).toUInt32 % 65536).toInt32 = iv (wch i k) := by
  have := wch_all i hi k.toNat (by omega)
  rw [show ((k.toNat : Nat) : Int) = k by omega] at this
  exact this
section Str
variable {X : fX} {y : fY} {d : Nat} {Z : fZ} {pc : Nat} {L st : List Value} {M : fM}
theorem f_ldcS (hZ : Cx X y d Z) {ix k : Nat} (hd : decode y.2.1 pc = .ok (.ldc ix, 2)) (hk : k < 12) (hix : (wordT.getD k (0, "")).1 = ix) (ho : y.1.cls = "ByTheFlame$Reader") (kk : fG X y Z (pc + 2) L (.ref (xK X k) :: st) M) : fG X y Z pc L st M := fun hm hn H locs ls hl hp hs => by
  subst hix
  exact va_ldcS hZ.ex hZ.by (by rw [← ho]; exact hZ.own) (hZ.S.2.2.2.2.2 k hk) hd (kk hm hn H locs ls hl hp hs)
theorem f_sval (hZ : Cx X y d Z) {ix i : Nat} (hd : decode y.2.1 pc = .ok (.getfield ix, 3)) (hi : i < 12) (hw : Cond.fieldLink y.1.cls ix "java/lang/String" "value" "[B" ∈ tb) (kk : fG X y Z (pc + 3) L (.ref (xV X i) :: st) M) : fG X y Z pc L (.ref (xK X i) :: st) M := fun hm hn H locs ls hl hp hs =>
  vk_getf hZ.ex hZ.by (hZ.S.2.2.1.1 i hi).2.2.1 hs hZ.own (hZ.ts _ hw) (fun _ h => h) hd (kk hm hn H locs ls hl hp hs)
theorem f_scod (hZ : Cx X y d Z) {ix i : Nat} (hd : decode y.2.1 pc = .ok (.getfield ix, 3)) (hi : i < 12) (hw : Cond.fieldLink y.1.cls ix "java/lang/String" "coder" "B" ∈ tb) (kk : fG X y Z (pc + 3) L (.int (iv 0) :: st) M) : fG X y Z pc L (.ref (xK X i) :: st) M := fun hm hn H locs ls hl hp hs =>
  vk_getf hZ.ex hZ.by (hZ.S.2.2.1.1 i hi).2.1 hs hZ.own (hZ.ts _ hw) (fun _ h => h) hd (kk hm hn H locs ls hl hp hs)
theorem f_slen (hZ : Cx X y d Z) {i : Nat} (hd : decode y.2.1 pc = .ok (.arraylength, 1)) (hi : i < 12) (kk : fG X y Z (pc + 1) L (.int (iv (wlen i)) :: st) M) : fG X y Z pc L (.ref (xV X i) :: st) M := fun hm hn H locs ls hl hp hs =>
  va_tlen hZ.ex hZ.by (hZ.S.2.2.1.1 i hi).2.2.2 hs (v := iv (wlen i)) (by rw [← iv_ofNat]; exact congrArg Int32.ofNat (by unfold wlen; rcases (show i = 0 ∨ i = 1 ∨ i = 2 ∨ i = 3 ∨ i = 4 ∨ i = 5 ∨ i = 6 ∨ i = 7 ∨ i = 8 ∨ i = 9 ∨ i = 10 ∨ i = 11 by omega) with e | e | e | e | e | e | e | e | e | e | e | e <;> subst e <;> rfl)) hd (kk hm hn H locs ls hl hp hs)
theorem f_sbyt (hZ : Cx X y d Z) {i : Nat} {k : Int} (hd : decode y.2.1 pc = .ok (.baload, 1)) (hi : i < 12) (h0 : 0 ≤ k) (h1 : k < wlen i) (kk : fG X y Z (pc + 1) L (.int (iv (wch i k)) :: st) M) : fG X y Z pc L (.int (iv k) :: .ref (xV X i) :: st) M := fun hm hn H locs ls hl hp hs => by
  have hw := (wlen_all i hi).1
  have hl2 : (wordL.map List.length).getD i 0 = wlen i := by unfold wlen; rcases (show i = 0 ∨ i = 1 ∨ i = 2 ∨ i = 3 ∨ i = 4 ∨ i = 5 ∨ i = 6 ∨ i = 7 ∨ i = 8 ∨ i = 9 ∨ i = 10 ∨ i = 11 by omega) with e | e | e | e | e | e | e | e | e | e | e | e <;> subst e <;> rfl
  exact va_tb hZ.ex hZ.by (hZ.S.2.2.1.1 i hi).2.2.2 hs (i := iv k) (by rw [hl2]; exact iv_in h0 h1 (by omega)) (v := .int (iv (wch i k))) (by rw [iv_clamp h0 ⟨by omega, by omega⟩]; show Value.int _ = _; unfold wch; rw [iv_of]) hd (kk hm hn H locs ls hl hp hs)
theorem f_i2c (hZ : Cx X y d Z) {a : Int} (hd : decode y.2.1 pc = .ok (.i2c, 1)) (kk : fG X y Z (pc + 1) L (.int (iv (i2c a)) :: st) M) : fG X y Z pc L (.int (iv a) :: st) M := fun hm hn H locs ls hl hp hs =>
  lv_i2c hZ.ex hZ.by hd (v := iv (i2c a)) (by unfold i2c; rw [iv_of]) (kk hm hn H locs ls hl hp hs)
theorem f_compact (hZ : Cx X y d Z) {ix : Nat} (hd : decode y.2.1 pc = .ok (.getstatic ix, 3)) (hw : Cond.fieldLink y.1.cls ix "java/lang/String" "COMPACT_STRINGS" "Z" ∈ tb) (kk : fG X y Z (pc + 3) L (.int (iv 1) :: st) M) : fG X y Z pc L st M := fun hm hn H locs ls hl hp hs =>
  va_gets hZ.ex hZ.by hZ.S.2.2.2.1 hs hZ.own (hZ.ts _ hw) (fun _ h => h) hd (kk hm hn H locs ls hl hp hs)
theorem f_fmt (hZ : Cx X y d Z) {ix : Nat} (hd : decode y.2.1 pc = .ok (.getstatic ix, 3)) (hw : Cond.fieldLink y.1.cls ix "jdk/internal/util/Preconditions" "SIOOBE_FORMATTER" "Ljava/util/function/BiFunction;" ∈ tb) (k1 : fG X y Z (pc + 3) L (.null :: st) M) (k2 : ∀ t, fG X y Z (pc + 3) L (.ref t :: st) M) : fG X y Z pc L st M := fun hm hn H locs ls hl hp hs => by
  rcases hZ.S.2.2.2.2.1 with h | ⟨t, h⟩
  · exact va_gets hZ.ex hZ.by h hs hZ.own (hZ.ts _ hw) (fun _ h => h) hd (k1 hm hn H locs ls hl hp hs)
  · exact va_gets hZ.ex hZ.by h hs hZ.own (hZ.ts _ hw) (fun _ h => h) hd (k2 t hm hn H locs ls hl hp hs)
theorem f_callVS (hZ : Cx X y (d + 1) Z) {z : fY} {i ix n : Nat} {As rest : List Value} {Q : Option Value → fM → Prop}
    (hd : decode y.2.1 pc = .ok (.invokevirtual ix, 3)) (hC : fC X d z (.ref (xK X i) :: As) M Q) (ok : okY z n) (hw : Cond.methodLink y.1.cls ix z.1 ∈ tb ∧ Cond.instanceMethod z.1 ∈ tb ∧ Cond.selects "java/lang/String" z.1 z.1 ∈ tb ∧ Cond.initialized "java/lang/String" ∈ tb ∧ z.1.cls = "java/lang/String")
    (hi : i < 12) (hn : As.length = n) (hst : st = As.reverse ++ .ref (xK X i) :: rest) (hr : (rest.map fun v => v.category).sum ≤ 8)
    (k : ∀ r M', Q r M' → fG X y Z (pc + 3) L (r.toList ++ rest) M') : fG X y Z pc L st M := fun hm hnl H locs ls hl hp hs => by
  obtain ⟨r1, r2, r3, r4⟩ := hZ.rm
  obtain ⟨o1, o2, o3⟩ := ok
  obtain ⟨w1, w2, w3, w4, w5⟩ := hw
  refine f_run hZ hnl hl hs (va_runV (As := As) (rest := rest) (nL := y.2.2.1) (n := n) (C := "java/lang/String") (bytes := z.2.1) (maxL := z.2.2.1) (ret := z.2.2.2) ⟨hZ.ex, hZ.by, hZ.ml, hZ.own, hZ.ts⟩ (hC hm)
    (cwV n hZ.ts (tbl_in ?_) rfl rfl rfl ⟨w5, o1⟩ ⟨r1, by show 8 + (z.2.2.1 + 11) + 40 * d ≤ _; omega⟩)
    ⟨fB.blind, vk_recv hZ.S.2.2.1 hi hs, hZ.pre hp hs⟩ rfl hn hl.1 hst (lv_room hr) hd ⟨r3, r4⟩) k
  intro w h
  unfold wsV at h
  rcases List.mem_append.mp h with h | h
  · simp only [List.mem_cons, List.not_mem_nil, or_false] at h
    rcases h with rfl | rfl | rfl | rfl
    · exact w1
    · exact w2
    · exact w3
    · exact w4
  · exact wsy_in o3 w h
theorem f_cvSI (hZ : Cx X y (d + 1) Z) {z : fY} {i ix n : Nat} {As rest : List Value} {P : Int → fM → Prop}
    (hd : decode y.2.1 pc = .ok (.invokevirtual ix, 3)) (ok : okY z n) (hw : Cond.methodLink y.1.cls ix z.1 ∈ tb ∧ Cond.instanceMethod z.1 ∈ tb ∧ Cond.selects "java/lang/String" z.1 z.1 ∈ tb ∧ Cond.initialized "java/lang/String" ∈ tb ∧ z.1.cls = "java/lang/String")
    (hi : i < 12) (hn : As.length = n) (hst : st = As.reverse ++ .ref (xK X i) :: rest) (hr : (rest.map fun v => v.category).sum ≤ 8) (hC : fC X d z (.ref (xK X i) :: As) M (QI P))
    (k : ∀ a M', rg a → P a M' → fG X y Z (pc + 3) L (.int (iv a) :: rest) M') : fG X y Z pc L st M := f_callVS hZ hd hC ok hw hi hn hst hr (fun r M' ⟨a, e, h1, h2⟩ => by rw [e]; exact k a M' h1 h2)
end Str
theorem ws_len : Cond.methodLink "ByTheFlame$Reader" 129 (mJ0_length_8abf5).1 ∈ tb ∧ Cond.instanceMethod (mJ0_length_8abf5).1 ∈ tb ∧ Cond.selects "java/lang/String" (mJ0_length_8abf5).1 (mJ0_length_8abf5).1 ∈ tb ∧ Cond.initialized "java/lang/String" ∈ tb ∧ (mJ0_length_8abf5).1.cls = "java/lang/String" := ⟨tb_in 407 (by decide +kernel) (by decide +kernel), tb_in 408 (by decide +kernel) (by decide +kernel), tb_in 409 (by decide +kernel) (by decide +kernel), tb_in 75 (by decide +kernel) (by decide +kernel), rfl⟩
theorem ws_chr : Cond.methodLink "ByTheFlame$Reader" 135 (mJ0_charAt_5068e).1 ∈ tb ∧ Cond.instanceMethod (mJ0_charAt_5068e).1 ∈ tb ∧ Cond.selects "java/lang/String" (mJ0_charAt_5068e).1 (mJ0_charAt_5068e).1 ∈ tb ∧ Cond.initialized "java/lang/String" ∈ tb ∧ (mJ0_charAt_5068e).1.cls = "java/lang/String" := ⟨tb_in 417 (by decide +kernel) (by decide +kernel), tb_in 418 (by decide +kernel) (by decide +kernel), tb_in 419 (by decide +kernel) (by decide +kernel), tb_in 75 (by decide +kernel) (by decide +kernel), rfl⟩
theorem ws_cod : Cond.methodLink "java/lang/String" 335 (mJ0_coder_7d493).1 ∈ tb ∧ Cond.instanceMethod (mJ0_coder_7d493).1 ∈ tb ∧ Cond.selects "java/lang/String" (mJ0_coder_7d493).1 (mJ0_coder_7d493).1 ∈ tb ∧ Cond.initialized "java/lang/String" ∈ tb ∧ (mJ0_coder_7d493).1.cls = "java/lang/String" := ⟨tb_in 411 (by decide +kernel) (by decide +kernel), tb_in 412 (by decide +kernel) (by decide +kernel), tb_in 413 (by decide +kernel) (by decide +kernel), tb_in 75 (by decide +kernel) (by decide +kernel), rfl⟩
theorem ws_lat : Cond.methodLink "java/lang/String" 492 (mJ0_isLatin1_aae02).1 ∈ tb ∧ Cond.instanceMethod (mJ0_isLatin1_aae02).1 ∈ tb ∧ Cond.selects "java/lang/String" (mJ0_isLatin1_aae02).1 (mJ0_isLatin1_aae02).1 ∈ tb ∧ Cond.initialized "java/lang/String" ∈ tb ∧ (mJ0_isLatin1_aae02).1.cls = "java/lang/String" := ⟨tb_in 421 (by decide +kernel) (by decide +kernel), tb_in 422 (by decide +kernel) (by decide +kernel), tb_in 423 (by decide +kernel) (by decide +kernel), tb_in 75 (by decide +kernel) (by decide +kernel), rfl⟩
theorem ws_chr1 : Cond.methodLink "java/lang/String" 495 (mJ1_charAt_3b067).1 ∈ tb ∧ Cond.static (mJ1_charAt_3b067).1 ∈ tb ∧ Cond.initialized (mJ1_charAt_3b067).1.cls ∈ tb := ⟨tb_in 425 (by decide +kernel) (by decide +kernel), tb_in 426 (by decide +kernel) (by decide +kernel), tb_in 76 (by decide +kernel) (by decide +kernel)⟩
theorem ws_chk : Cond.methodLink "java/lang/StringLatin1" 9 (mJ0_checkIndex_df160).1 ∈ tb ∧ Cond.static (mJ0_checkIndex_df160).1 ∈ tb ∧ Cond.initialized (mJ0_checkIndex_df160).1.cls ∈ tb := ⟨tb_in 428 (by decide +kernel) (by decide +kernel), tb_in 429 (by decide +kernel) (by decide +kernel), tb_in 75 (by decide +kernel) (by decide +kernel)⟩
theorem ws_pre : Cond.methodLink "java/lang/String" 1059 (mJ3_checkIndex_8e157).1 ∈ tb ∧ Cond.static (mJ3_checkIndex_8e157).1 ∈ tb ∧ Cond.initialized (mJ3_checkIndex_8e157).1.cls ∈ tb := ⟨tb_in 433 (by decide +kernel) (by decide +kernel), tb_in 434 (by decide +kernel) (by decide +kernel), tb_in 77 (by decide +kernel) (by decide +kernel)⟩
set_option maxRecDepth 20000 in
set_option maxHeartbeats 4000000 in
theorem t_coder {X : fX} {M : fM} {d i : Nat} (hi : i < 12) : fC X d mJ0_coder_7d493 [.ref (xK X i)] M (QI fun r M' => M' = M ∧ r = 0) := by
  refine fC.of (L := [_]) (by decide +kernel) rfl (Nat.le_of_ble_eq_true rfl) (fun Z hZ hR => ?_)
  refine f_compact hZ dJ0_coder_7d493_0 (tb_in 415 (by decide +kernel) (by decide +kernel)) ?_
  refine f_eq (tgt := 13) hZ dJ0_coder_7d493_3 rfl (by omega) (fun h => ?_) (fun h => ?_)
  · exfalso; omega
  · refine f_aload_n hZ dJ0_coder_7d493_6 rfl ?_
    refine f_scod hZ dJ0_coder_7d493_7 hi (tb_in 1284 (by decide +kernel) (by decide +kernel)) ?_
    refine f_goto (tgt := 14) hZ dJ0_coder_7d493_10 rfl ?_
    exact f_iret hZ hR dJ0_coder_7d493_14 rfl rfl ⟨0, rfl, by omega, rfl, rfl⟩
set_option maxRecDepth 20000 in
set_option maxHeartbeats 4000000 in
theorem t_latin {X : fX} {M : fM} {d i : Nat} (hi : i < 12) : fC X d mJ0_isLatin1_aae02 [.ref (xK X i)] M (QI fun r M' => M' = M ∧ r = 1) := by
  refine fC.of (L := [_]) (by decide +kernel) rfl (Nat.le_of_ble_eq_true rfl) (fun Z hZ hR => ?_)
  refine f_compact hZ dJ0_isLatin1_aae02_0 (tb_in 415 (by decide +kernel) (by decide +kernel)) ?_
  refine f_eq (tgt := 17) hZ dJ0_isLatin1_aae02_3 rfl (by omega) (fun h => ?_) (fun h => ?_)
  · exfalso; omega
  · refine f_aload_n hZ dJ0_isLatin1_aae02_6 rfl ?_
    refine f_scod hZ dJ0_isLatin1_aae02_7 hi (tb_in 1284 (by decide +kernel) (by decide +kernel)) ?_
    refine f_ne (tgt := 17) hZ dJ0_isLatin1_aae02_10 rfl (by omega) (fun h => ?_) (fun h => ?_)
    · exfalso; omega
    · refine f_iconst hZ dJ0_isLatin1_aae02_13 ?_
      refine f_goto (tgt := 18) hZ dJ0_isLatin1_aae02_14 rfl ?_
      exact f_retZ hZ hR dJ0_isLatin1_aae02_18 rfl (by omega) ⟨rfl, rfl⟩
set_option maxRecDepth 20000 in
set_option maxHeartbeats 4000000 in
theorem t_slen {X : fX} {M : fM} {d i : Nat} (hi : i < 12) : fC X (d + 1) mJ0_length_8abf5 [.ref (xK X i)] M (QI fun r M' => M' = M ∧ r = wlen i) := by
  have hw := wlen_all i hi
  refine fC.of (L := [_]) (by decide +kernel) rfl (Nat.le_of_ble_eq_true rfl) (fun Z hZ hR => ?_)
  refine f_aload_n hZ dJ0_length_8abf5_0 rfl ?_
  refine f_sval hZ dJ0_length_8abf5_1 hi (tb_in 1283 (by decide +kernel) (by decide +kernel)) ?_
  refine f_slen hZ dJ0_length_8abf5_4 hi ?_
  refine f_aload_n hZ dJ0_length_8abf5_5 rfl ?_
  refine f_cvSI hZ dJ0_length_8abf5_6 okJ0_coder_7d493 ws_cod hi (As := []) rfl rfl (Nat.le_of_ble_eq_true rfl) (t_coder hi) (fun a M6 r6 h6 => ?_)
  obtain ⟨e6, h6⟩ := h6
  subst e6
  subst h6
  refine f_ishr hZ dJ0_length_8abf5_9 ?_
  have hs : shrI (wlen i) 0 = wlen i := by
    rcases (show i = 0 ∨ i = 1 ∨ i = 2 ∨ i = 3 ∨ i = 4 ∨ i = 5 ∨ i = 6 ∨ i = 7 ∨ i = 8 ∨ i = 9 ∨ i = 10 ∨ i = 11 by omega) with e | e | e | e | e | e | e | e | e | e | e | e <;> subst e <;> decide +kernel
  rw [hs]
  exact f_retI hZ hR dJ0_length_8abf5_10 rfl (by omega) ⟨rfl, rfl⟩
set_option maxRecDepth 20000 in
set_option maxHeartbeats 4000000 in
theorem t_pre_p0 {X : fX} {M : fM} {d t : Nat} {a b : Int} (h0 : 0 ≤ a) (h1 : a < b) (hb : rg b) : fC X d mJ3_checkIndex_8e157 [.int (iv a), .int (iv b), .null] M (QI fun r M' => M' = M) := by
  refine fC.of (L := [_, _, _]) (by decide +kernel) rfl (Nat.le_of_ble_eq_true rfl) (fun Z hZ hR => ?_)
  refine f_iload_n hZ dJ3_checkIndex_8e157_0 rfl ?_
  refine f_lt (tgt := 9) hZ dJ3_checkIndex_8e157_1 rfl (by omega) (fun h => ?_) (fun h => ?_)
  · exfalso; omega
  · refine f_iload_n hZ dJ3_checkIndex_8e157_4 rfl ?_
    refine f_iload_n hZ dJ3_checkIndex_8e157_5 rfl ?_
    refine f_ilt (tgt := 16) hZ dJ3_checkIndex_8e157_6 rfl (by omega) (by omega) (fun h => ?_) (fun h => ?_)
    · refine f_iload_n hZ dJ3_checkIndex_8e157_16 rfl ?_
      exact f_retI hZ hR dJ3_checkIndex_8e157_17 rfl (by omega) rfl
    · exfalso; omega
set_option maxRecDepth 20000 in
set_option maxHeartbeats 4000000 in
theorem t_pre_p1 {X : fX} {M : fM} {d t : Nat} {a b : Int} (h0 : 0 ≤ a) (h1 : a < b) (hb : rg b) : fC X d mJ3_checkIndex_8e157 [.int (iv a), .int (iv b), .ref t] M (QI fun r M' => M' = M) := by
  refine fC.of (L := [_, _, _]) (by decide +kernel) rfl (Nat.le_of_ble_eq_true rfl) (fun Z hZ hR => ?_)
  refine f_iload_n hZ dJ3_checkIndex_8e157_0 rfl ?_
  refine f_lt (tgt := 9) hZ dJ3_checkIndex_8e157_1 rfl (by omega) (fun h => ?_) (fun h => ?_)
  · exfalso; omega
  · refine f_iload_n hZ dJ3_checkIndex_8e157_4 rfl ?_
    refine f_iload_n hZ dJ3_checkIndex_8e157_5 rfl ?_
    refine f_ilt (tgt := 16) hZ dJ3_checkIndex_8e157_6 rfl (by omega) (by omega) (fun h => ?_) (fun h => ?_)
    · refine f_iload_n hZ dJ3_checkIndex_8e157_16 rfl ?_
      exact f_retI hZ hR dJ3_checkIndex_8e157_17 rfl (by omega) rfl
    · exfalso; omega
set_option maxRecDepth 20000 in
set_option maxHeartbeats 4000000 in
theorem t_chk {X : fX} {M : fM} {d : Nat} {a b : Int} (h0 : 0 ≤ a) (h1 : a < b) (hb : rg b) : fC X (d + 1) mJ0_checkIndex_df160 [.int (iv a), .int (iv b)] M (QV fun M' => M' = M) := by
  refine fC.of (L := [_, _]) (by decide +kernel) rfl (Nat.le_of_ble_eq_true rfl) (fun Z hZ hR => ?_)
  refine f_iload_n hZ dJ0_checkIndex_df160_0 rfl ?_
  refine f_iload_n hZ dJ0_checkIndex_df160_1 rfl ?_
  refine f_fmt hZ dJ0_checkIndex_df160_2 (tb_in 431 (by decide +kernel) (by decide +kernel)) ?_ (fun t => ?_)
  · refine f_csI hZ dJ0_checkIndex_df160_5 okJ3_checkIndex_8e157 ws_pre (As := [.int (iv a), .int (iv b), .null]) rfl rfl (Nat.le_of_ble_eq_true rfl) (t_pre_p0 (t := 0) h0 h1 hb) (fun r M5 r5 h5 => ?_)
    subst h5
    refine f_pop hZ dJ0_checkIndex_df160_8 rfl ?_
    exact f_retV hZ hR dJ0_checkIndex_df160_9 rfl rfl
  · refine f_csI hZ dJ0_checkIndex_df160_5 okJ3_checkIndex_8e157 ws_pre (As := [.int (iv a), .int (iv b), .ref t]) rfl rfl (Nat.le_of_ble_eq_true rfl) (t_pre_p1 h0 h1 hb) (fun r M5 r5 h5 => ?_)
    subst h5
    refine f_pop hZ dJ0_checkIndex_df160_8 rfl ?_
    exact f_retV hZ hR dJ0_checkIndex_df160_9 rfl rfl
set_option maxRecDepth 20000 in
set_option maxHeartbeats 4000000 in
theorem t_chr1 {X : fX} {M : fM} {d i : Nat} {k : Int} (hi : i < 12) (h0 : 0 ≤ k) (h1 : k < wlen i) : fC X (d + 2) mJ1_charAt_3b067 [.ref (xV X i), .int (iv k)] M (QI fun r M' => M' = M ∧ r = wch i k) := by
  have hw := wlen_all i hi
  have hc := wch_at hi h0 h1
  refine fC.of (L := [_, _]) (by decide +kernel) rfl (Nat.le_of_ble_eq_true rfl) (fun Z hZ hR => ?_)
  refine f_iload_n hZ dJ1_charAt_3b067_0 rfl ?_
  refine f_aload_n hZ dJ1_charAt_3b067_1 rfl ?_
  refine f_slen hZ dJ1_charAt_3b067_2 hi ?_
  refine f_csV hZ dJ1_charAt_3b067_3 okJ0_checkIndex_df160 ws_chk (As := [.int (iv k), .int (iv (wlen i))]) rfl rfl (Nat.le_of_ble_eq_true rfl) (t_chk h0 h1 (by omega)) (fun M3 h3 => ?_)
  subst h3
  refine f_aload_n hZ dJ1_charAt_3b067_6 rfl ?_
  refine f_iload_n hZ dJ1_charAt_3b067_7 rfl ?_
  refine f_sbyt hZ dJ1_charAt_3b067_8 hi h0 h1 ?_
  refine f_sipush hZ dJ1_charAt_3b067_9 ?_
  refine f_iand hZ dJ1_charAt_3b067_12 ?_
  refine f_i2c hZ dJ1_charAt_3b067_13 ?_
  rw [hc.1]
  exact f_iret hZ hR dJ1_charAt_3b067_14 rfl (congrArg Value.int hc.2.2.2) ⟨_, rfl, by omega, rfl, rfl⟩
set_option maxRecDepth 20000 in
set_option maxHeartbeats 4000000 in
theorem t_chr {X : fX} {M : fM} {d i : Nat} {k : Int} (hi : i < 12) (h0 : 0 ≤ k) (h1 : k < wlen i) : fC X (d + 3) mJ0_charAt_5068e [.ref (xK X i), .int (iv k)] M (QI fun r M' => M' = M ∧ r = wch i k) := by
  have hc := wch_at hi h0 h1
  refine fC.of (L := [_, _]) (by decide +kernel) rfl (Nat.le_of_ble_eq_true rfl) (fun Z hZ hR => ?_)
  refine f_aload_n hZ dJ0_charAt_5068e_0 rfl ?_
  refine f_cvSI hZ dJ0_charAt_5068e_1 okJ0_isLatin1_aae02 ws_lat hi (As := []) rfl rfl (Nat.le_of_ble_eq_true rfl) (t_latin hi) (fun a M1 r1 h1' => ?_)
  obtain ⟨e1, h1'⟩ := h1'
  subst e1
  subst h1'
  refine f_eq (tgt := 16) hZ dJ0_charAt_5068e_4 rfl (by omega) (fun h => ?_) (fun h => ?_)
  · exfalso; omega
  · refine f_aload_n hZ dJ0_charAt_5068e_7 rfl ?_
    refine f_sval hZ dJ0_charAt_5068e_8 hi (tb_in 1283 (by decide +kernel) (by decide +kernel)) ?_
    refine f_iload_n hZ dJ0_charAt_5068e_11 rfl ?_
    refine f_csI hZ dJ0_charAt_5068e_12 okJ1_charAt_3b067 ws_chr1 (As := [.ref (xV X i), .int (iv k)]) rfl rfl (Nat.le_of_ble_eq_true rfl) (t_chr1 hi h0 h1) (fun a M2 r2 h2 => ?_)
    obtain ⟨e2, h2⟩ := h2
    subst e2
    subst h2
    exact f_iret hZ hR dJ0_charAt_5068e_15 rfl (congrArg Value.int hc.2.2.2) ⟨_, rfl, by omega, rfl, rfl⟩
