/-! the law: its script, its cases, its loop -/
abbrev mL : fY := (yL_law, cL_law, 4, some .boolean)
def lx (xs : Nat → Int32) (i : Int) : Int := (xs i.toNat).toInt
theorem lxr (xs : Nat → Int32) (i : Int) : rg (lx xs i) := rg_of _
def lS (Z : fZ) (b n : Nat) (xs : Nat → Int32) : Prop := va_X b n xs (zs Z) (zs Z).heap ∧ b < (zs Z).heap.size ∧ ¬ zA Z b ∧ n ≤ 3072
theorem f_lld {X : fX} {y : fY} {d : Nat} {Z : fZ} {pc : Nat} {L st : List Value} {M : fM} (hZ : Cx X y d Z) {b n : Nat} {xs : Nat → Int32} {i : Int} (hS : lS Z b n xs) (hd : decode y.2.1 pc = .ok (.iaload, 1)) (h0 : 0 ≤ i) (h1 : i < n) (k : fG X y Z (pc + 1) L (.int (iv (lx xs i)) :: st) M) : fG X y Z pc L (.int (iv i) :: .ref b :: st) M := fun hm hn H locs ls hl hp hs => by
  obtain ⟨s1, s2, s3, s4⟩ := hS
  refine va_sld hZ.ex hZ.by s1 s2 s3 hs (iv_in h0 h1 (by omega)) hd ?_
  rw [iv_clamp h0 ⟨by omega, by omega⟩]
  have k2 := k hm hn H locs ls hl hp hs
  unfold lx at k2
  rw [iv_of] at k2
  exact k2
theorem f_llen {X : fX} {y : fY} {d : Nat} {Z : fZ} {pc : Nat} {L st : List Value} {M : fM} (hZ : Cx X y d Z) {b n : Nat} {xs : Nat → Int32} (hS : lS Z b n xs) (hd : decode y.2.1 pc = .ok (.arraylength, 1)) (k : fG X y Z (pc + 1) L (.int (iv (n : Int)) :: st) M) : fG X y Z pc L (.ref b :: st) M := fun hm hn H locs ls hl hp hs => by
  obtain ⟨s1, s2, s3, s4⟩ := hS
  refine va_slen hZ.ex hZ.by s1 s2 s3 hs hd ?_
  rw [iv_ofNat]
  exact k hm hn H locs ls hl hp hs
def lL (X : fX) (b : Nat) (i : Int) : List Value := [.ref b, .ref (xa X 0), .ref (xa X 59), .int (iv i)]
theorem Rel.t6 {M : fM} (h : Rel M) : 0 ≤ M 19 6 ∧ M 19 6 ≤ 160 := by rw [h.1.2.2.2.2.1]; exact h.2.2.2.1.1
theorem Rel.t7 {M : fM} (h : Rel M) : 1 ≤ M 19 7 ∧ M 19 7 ≤ 6 := by rw [h.1.2.2.2.2.2]; exact h.2.2.2.2.1.1
theorem Rel.rn {M : fM} (h : Rel M) : RN M := h.2.2.2.2.2.2.2.1
theorem Rel.r9 {M : fM} (h : Rel M) : R9 M := h.2.2.2.2.2.2.2.2
section Law
variable {X : fX} {Z : fZ} {b n : Nat} {xs : Nat → Int32} {M : fM} {i : Int}
set_option maxRecDepth 20000 in
theorem lc_wick (hZ : Cx X mL 101 Z) (hS : lS Z b n xs) (h : Rel M) (h0 : 0 ≤ i) (h1 : i + 6 ≤ n) (nx : ∀ M1, Rel M1 → fG X mL Z 1103 (lL X b i) [] M1) : fG X mL Z 164 (lL X b i) [] M := by
  unfold lL
  refine f_aload_n hZ dL_law_164 rfl ?_
  refine f_aload_n hZ dL_law_165 rfl ?_
  refine f_iload_n hZ dL_law_166 rfl ?_
  refine f_iconst hZ dL_law_167 ?_
  refine f_iadd hZ dL_law_168 ?_
  refine f_lld hZ hS dL_law_169 (by omega) (by omega) ?_
  refine f_aload_n hZ dL_law_170 rfl ?_
  refine f_iload_n hZ dL_law_171 rfl ?_
  refine f_iconst hZ dL_law_172 ?_
  refine f_iadd hZ dL_law_173 ?_
  refine f_lld hZ hS dL_law_174 (by omega) (by omega) ?_
  refine f_aload_n hZ dL_law_175 rfl ?_
  refine f_iload_n hZ dL_law_176 rfl ?_
  refine f_iconst hZ dL_law_177 ?_
  refine f_iadd hZ dL_law_178 ?_
  refine f_lld hZ hS dL_law_179 (by omega) (by omega) ?_
  refine vL_13 hZ dL_law_180 (t_X6_wick (lxr xs (i + 1)) (lxr xs (i + 2)) (lxr xs (i + 3)) h.WK.1) (fun a1 M1 r1 q1 => ?_)
  refine f_aload_n hZ dL_law_183 rfl ?_
  refine f_aload_n hZ dL_law_184 rfl ?_
  refine f_iload_n hZ dL_law_185 rfl ?_
  refine f_iconst hZ dL_law_186 ?_
  refine f_iadd hZ dL_law_187 ?_
  refine f_lld hZ hS dL_law_188 (by omega) (by omega) ?_
  refine f_aload_n hZ dL_law_189 rfl ?_
  refine f_iload_n hZ dL_law_190 rfl ?_
  refine f_iconst hZ dL_law_191 ?_
  refine f_iadd hZ dL_law_192 ?_
  refine f_lld hZ hS dL_law_193 (by omega) (by omega) ?_
  refine f_aload_n hZ dL_law_194 rfl ?_
  refine f_iload_n hZ dL_law_195 rfl ?_
  refine f_iconst hZ dL_law_196 ?_
  refine f_iadd hZ dL_law_197 ?_
  refine f_lld hZ hS dL_law_198 (by omega) (by omega) ?_
  refine vL_17 hZ dL_law_199 (p_wick h  (lxr xs (i + 1)) (lxr xs (i + 2)) (lxr xs (i + 3)) q1) (fun a2 M2 r2 q2 => ?_)
  exact f_ieq (tgt := 1103) hZ dL_law_202 rfl r1 r2 (fun _ => nx M2 q2.2) (fun e => absurd q2.1.symm e)
set_option maxRecDepth 20000 in
theorem lc_set (hZ : Cx X mL 101 Z) (hS : lS Z b n xs) (h : Rel M) (h0 : 0 ≤ i) (h1 : i + 6 ≤ n) (nx : ∀ M1, Rel M1 → fG X mL Z 1103 (lL X b i) [] M1) : fG X mL Z 207 (lL X b i) [] M := by
  unfold lL
  refine f_aload_n hZ dL_law_207 rfl ?_
  refine f_aload_n hZ dL_law_208 rfl ?_
  refine f_iload_n hZ dL_law_209 rfl ?_
  refine f_iconst hZ dL_law_210 ?_
  refine f_iadd hZ dL_law_211 ?_
  refine f_lld hZ hS dL_law_212 (by omega) (by omega) ?_
  refine f_aload_n hZ dL_law_213 rfl ?_
  refine f_iload_n hZ dL_law_214 rfl ?_
  refine f_iconst hZ dL_law_215 ?_
  refine f_iadd hZ dL_law_216 ?_
  refine f_lld hZ hS dL_law_217 (by omega) (by omega) ?_
  refine f_aload_n hZ dL_law_218 rfl ?_
  refine f_iload_n hZ dL_law_219 rfl ?_
  refine f_iconst hZ dL_law_220 ?_
  refine f_iadd hZ dL_law_221 ?_
  refine f_lld hZ hS dL_law_222 (by omega) (by omega) ?_
  refine vL_18 hZ dL_law_223 (t_X6_set (lxr xs (i + 1)) (lxr xs (i + 2)) (lxr xs (i + 3)) h.WK.1) (fun a1 M1 r1 q1 => ?_)
  refine f_aload_n hZ dL_law_226 rfl ?_
  refine f_aload_n hZ dL_law_227 rfl ?_
  refine f_iload_n hZ dL_law_228 rfl ?_
  refine f_iconst hZ dL_law_229 ?_
  refine f_iadd hZ dL_law_230 ?_
  refine f_lld hZ hS dL_law_231 (by omega) (by omega) ?_
  refine f_aload_n hZ dL_law_232 rfl ?_
  refine f_iload_n hZ dL_law_233 rfl ?_
  refine f_iconst hZ dL_law_234 ?_
  refine f_iadd hZ dL_law_235 ?_
  refine f_lld hZ hS dL_law_236 (by omega) (by omega) ?_
  refine f_aload_n hZ dL_law_237 rfl ?_
  refine f_iload_n hZ dL_law_238 rfl ?_
  refine f_iconst hZ dL_law_239 ?_
  refine f_iadd hZ dL_law_240 ?_
  refine f_lld hZ hS dL_law_241 (by omega) (by omega) ?_
  refine vL_21 hZ dL_law_242 (p_set h  (lxr xs (i + 1)) (lxr xs (i + 2)) (lxr xs (i + 3)) q1) (fun a2 M2 r2 q2 => ?_)
  exact f_ieq (tgt := 1103) hZ dL_law_245 rfl r1 r2 (fun _ => nx M2 q2.2) (fun e => absurd q2.1.symm e)
set_option maxRecDepth 20000 in
theorem lc_told (hZ : Cx X mL 101 Z) (hS : lS Z b n xs) (h : Rel M) (h0 : 0 ≤ i) (h1 : i + 6 ≤ n) (nx : ∀ M1, Rel M1 → fG X mL Z 1103 (lL X b i) [] M1) : fG X mL Z 250 (lL X b i) [] M := by
  unfold lL
  refine f_aload_n hZ dL_law_250 rfl ?_
  refine f_aload_n hZ dL_law_251 rfl ?_
  refine f_iload_n hZ dL_law_252 rfl ?_
  refine f_iconst hZ dL_law_253 ?_
  refine f_iadd hZ dL_law_254 ?_
  refine f_lld hZ hS dL_law_255 (by omega) (by omega) ?_
  refine f_aload_n hZ dL_law_256 rfl ?_
  refine f_iload_n hZ dL_law_257 rfl ?_
  refine f_iconst hZ dL_law_258 ?_
  refine f_iadd hZ dL_law_259 ?_
  refine f_lld hZ hS dL_law_260 (by omega) (by omega) ?_
  refine vL_22 hZ dL_law_261 (t_X6_told (lxr xs (i + 1)) (lxr xs (i + 2)) h.WK) (fun a1 M1 r1 q1 => ?_)
  refine f_aload_n hZ dL_law_264 rfl ?_
  refine f_aload_n hZ dL_law_265 rfl ?_
  refine f_iload_n hZ dL_law_266 rfl ?_
  refine f_iconst hZ dL_law_267 ?_
  refine f_iadd hZ dL_law_268 ?_
  refine f_lld hZ hS dL_law_269 (by omega) (by omega) ?_
  refine f_aload_n hZ dL_law_270 rfl ?_
  refine f_iload_n hZ dL_law_271 rfl ?_
  refine f_iconst hZ dL_law_272 ?_
  refine f_iadd hZ dL_law_273 ?_
  refine f_lld hZ hS dL_law_274 (by omega) (by omega) ?_
  refine vL_26 hZ dL_law_275 (p_told h  (lxr xs (i + 1)) (lxr xs (i + 2)) q1) (fun a2 M2 r2 q2 => ?_)
  exact f_ieq (tgt := 1103) hZ dL_law_278 rfl r1 r2 (fun _ => nx M2 q2.2) (fun e => absurd q2.1.symm e)
set_option maxRecDepth 20000 in
theorem lc_feed (hZ : Cx X mL 101 Z) (hS : lS Z b n xs) (h : Rel M) (h0 : 0 ≤ i) (h1 : i + 6 ≤ n) (nx : ∀ M1, Rel M1 → fG X mL Z 1103 (lL X b i) [] M1) : fG X mL Z 283 (lL X b i) [] M := by
  unfold lL
  refine f_aload_n hZ dL_law_283 rfl ?_
  refine f_aload_n hZ dL_law_284 rfl ?_
  refine f_iload_n hZ dL_law_285 rfl ?_
  refine f_iconst hZ dL_law_286 ?_
  refine f_iadd hZ dL_law_287 ?_
  refine f_lld hZ hS dL_law_288 (by omega) (by omega) ?_
  refine vL_27 hZ dL_law_289 (t_X6_feed (lxr xs (i + 1)) h.t6) (fun a1 M1 r1 q1 => ?_)
  refine f_aload_n hZ dL_law_292 rfl ?_
  refine f_aload_n hZ dL_law_293 rfl ?_
  refine f_iload_n hZ dL_law_294 rfl ?_
  refine f_iconst hZ dL_law_295 ?_
  refine f_iadd hZ dL_law_296 ?_
  refine f_lld hZ hS dL_law_297 (by omega) (by omega) ?_
  refine vL_31 hZ dL_law_298 (p_feed h  (lxr xs (i + 1)) q1) (fun a2 M2 r2 q2 => ?_)
  exact f_ieq (tgt := 1103) hZ dL_law_301 rfl r1 r2 (fun _ => nx M2 q2.2) (fun e => absurd q2.1.symm e)
set_option maxRecDepth 20000 in
theorem lc_text (hZ : Cx X mL 101 Z) (hS : lS Z b n xs) (h : Rel M) (h0 : 0 ≤ i) (h1 : i + 6 ≤ n) (nx : ∀ M1, Rel M1 → fG X mL Z 1103 (lL X b i) [] M1) : fG X mL Z 306 (lL X b i) [] M := by
  unfold lL
  refine f_aload_n hZ dL_law_306 rfl ?_
  refine vL_32 hZ dL_law_307 (t_X6_text  h.t7 h.t6) (fun a1 M1 r1 q1 => ?_)
  refine f_aload_n hZ dL_law_310 rfl ?_
  refine vL_36 hZ dL_law_311 (p_text h   q1) (fun a2 M2 r2 q2 => ?_)
  exact f_ieq (tgt := 1103) hZ dL_law_314 rfl r1 r2 (fun _ => nx M2 q2.2) (fun e => absurd q2.1.symm e)
set_option maxRecDepth 20000 in
theorem lc_force (hZ : Cx X mL 101 Z) (hS : lS Z b n xs) (h : Rel M) (h0 : 0 ≤ i) (h1 : i + 6 ≤ n) (nx : ∀ M1, Rel M1 → fG X mL Z 1103 (lL X b i) [] M1) : fG X mL Z 319 (lL X b i) [] M := by
  unfold lL
  refine f_aload_n hZ dL_law_319 rfl ?_
  refine f_aload_n hZ dL_law_320 rfl ?_
  refine f_iload_n hZ dL_law_321 rfl ?_
  refine f_iconst hZ dL_law_322 ?_
  refine f_iadd hZ dL_law_323 ?_
  refine f_lld hZ hS dL_law_324 (by omega) (by omega) ?_
  refine vL_37 hZ dL_law_325 (t_X6_force (lxr xs (i + 1)) h.t7) (fun a1 M1 r1 q1 => ?_)
  refine f_aload_n hZ dL_law_328 rfl ?_
  refine f_aload_n hZ dL_law_329 rfl ?_
  refine f_iload_n hZ dL_law_330 rfl ?_
  refine f_iconst hZ dL_law_331 ?_
  refine f_iadd hZ dL_law_332 ?_
  refine f_lld hZ hS dL_law_333 (by omega) (by omega) ?_
  refine vL_40 hZ dL_law_334 (p_force h  (lxr xs (i + 1)) q1) (fun a2 M2 r2 q2 => ?_)
  exact f_ieq (tgt := 1103) hZ dL_law_337 rfl r1 r2 (fun _ => nx M2 q2.2) (fun e => absurd q2.1.symm e)
set_option maxRecDepth 20000 in
theorem lc_light (hZ : Cx X mL 101 Z) (hS : lS Z b n xs) (h : Rel M) (h0 : 0 ≤ i) (h1 : i + 6 ≤ n) (nx : ∀ M1, Rel M1 → fG X mL Z 1103 (lL X b i) [] M1) : fG X mL Z 342 (lL X b i) [] M := by
  unfold lL
  refine f_aload_n hZ dL_law_342 rfl ?_
  refine f_aload_n hZ dL_law_343 rfl ?_
  refine f_iload_n hZ dL_law_344 rfl ?_
  refine f_iconst hZ dL_law_345 ?_
  refine f_iadd hZ dL_law_346 ?_
  refine f_lld hZ hS dL_law_347 (by omega) (by omega) ?_
  refine f_aload_n hZ dL_law_348 rfl ?_
  refine f_iload_n hZ dL_law_349 rfl ?_
  refine f_iconst hZ dL_law_350 ?_
  refine f_iadd hZ dL_law_351 ?_
  refine f_lld hZ hS dL_law_352 (by omega) (by omega) ?_
  refine vL_41 hZ dL_law_353 (t_X6_light (lxr xs (i + 1)) (lxr xs (i + 2)) h.WK) (fun a1 M1 r1 q1 => ?_)
  refine f_aload_n hZ dL_law_356 rfl ?_
  refine f_aload_n hZ dL_law_357 rfl ?_
  refine f_iload_n hZ dL_law_358 rfl ?_
  refine f_iconst hZ dL_law_359 ?_
  refine f_iadd hZ dL_law_360 ?_
  refine f_lld hZ hS dL_law_361 (by omega) (by omega) ?_
  refine f_aload_n hZ dL_law_362 rfl ?_
  refine f_iload_n hZ dL_law_363 rfl ?_
  refine f_iconst hZ dL_law_364 ?_
  refine f_iadd hZ dL_law_365 ?_
  refine f_lld hZ hS dL_law_366 (by omega) (by omega) ?_
  refine vL_44 hZ dL_law_367 (p_light h  (lxr xs (i + 1)) (lxr xs (i + 2)) q1) (fun a2 M2 r2 q2 => ?_)
  exact f_ieq (tgt := 1103) hZ dL_law_370 rfl r1 r2 (fun _ => nx M2 q2.2) (fun e => absurd q2.1.symm e)
set_option maxRecDepth 20000 in
theorem lc_burn (hZ : Cx X mL 101 Z) (hS : lS Z b n xs) (h : Rel M) (h0 : 0 ≤ i) (h1 : i + 6 ≤ n) (nx : ∀ M1, Rel M1 → fG X mL Z 1103 (lL X b i) [] M1) : fG X mL Z 375 (lL X b i) [] M := by
  unfold lL
  refine f_aload_n hZ dL_law_375 rfl ?_
  refine f_aload_n hZ dL_law_376 rfl ?_
  refine f_iload_n hZ dL_law_377 rfl ?_
  refine f_iconst hZ dL_law_378 ?_
  refine f_iadd hZ dL_law_379 ?_
  refine f_lld hZ hS dL_law_380 (by omega) (by omega) ?_
  refine vL_45 hZ dL_law_381 (t_X6_burn (lxr xs (i + 1)) h.WK) (fun a1 M1 r1 q1 => ?_)
  refine f_aload_n hZ dL_law_384 rfl ?_
  refine f_aload_n hZ dL_law_385 rfl ?_
  refine f_iload_n hZ dL_law_386 rfl ?_
  refine f_iconst hZ dL_law_387 ?_
  refine f_iadd hZ dL_law_388 ?_
  refine f_lld hZ hS dL_law_389 (by omega) (by omega) ?_
  refine vL_48 hZ dL_law_390 (p_burn h  (lxr xs (i + 1)) q1) (fun a2 M2 r2 q2 => ?_)
  exact f_ieq (tgt := 1103) hZ dL_law_393 rfl r1 r2 (fun _ => nx M2 q2.2) (fun e => absurd q2.1.symm e)
set_option maxRecDepth 20000 in
theorem lc_out (hZ : Cx X mL 101 Z) (hS : lS Z b n xs) (h : Rel M) (h0 : 0 ≤ i) (h1 : i + 6 ≤ n) (nx : ∀ M1, Rel M1 → fG X mL Z 1103 (lL X b i) [] M1) : fG X mL Z 398 (lL X b i) [] M := by
  unfold lL
  refine f_aload_n hZ dL_law_398 rfl ?_
  refine f_aload_n hZ dL_law_399 rfl ?_
  refine f_iload_n hZ dL_law_400 rfl ?_
  refine f_iconst hZ dL_law_401 ?_
  refine f_iadd hZ dL_law_402 ?_
  refine f_lld hZ hS dL_law_403 (by omega) (by omega) ?_
  refine vL_49 hZ dL_law_404 (t_X6_out (lxr xs (i + 1)) h.WK) (fun a1 M1 r1 q1 => ?_)
  refine f_aload_n hZ dL_law_407 rfl ?_
  refine f_aload_n hZ dL_law_408 rfl ?_
  refine f_iload_n hZ dL_law_409 rfl ?_
  refine f_iconst hZ dL_law_410 ?_
  refine f_iadd hZ dL_law_411 ?_
  refine f_lld hZ hS dL_law_412 (by omega) (by omega) ?_
  refine vL_52 hZ dL_law_413 (p_out h  (lxr xs (i + 1)) q1) (fun a2 M2 r2 q2 => ?_)
  exact f_ieq (tgt := 1103) hZ dL_law_416 rfl r1 r2 (fun _ => nx M2 q2.2) (fun e => absurd q2.1.symm e)
set_option maxRecDepth 20000 in
theorem lc_spans (hZ : Cx X mL 101 Z) (hS : lS Z b n xs) (h : Rel M) (h0 : 0 ≤ i) (h1 : i + 6 ≤ n) (nx : ∀ M1, Rel M1 → fG X mL Z 1103 (lL X b i) [] M1) : fG X mL Z 421 (lL X b i) [] M := by
  obtain ⟨W, hW, hk⟩ := h.rn
  have hg := h.gOk hW
  unfold lL
  refine f_aload_n hZ dL_law_421 rfl ?_
  refine f_aload_n hZ dL_law_422 rfl ?_
  refine f_iload_n hZ dL_law_423 rfl ?_
  refine f_iconst hZ dL_law_424 ?_
  refine f_iadd hZ dL_law_425 ?_
  refine f_lld hZ hS dL_law_426 (by omega) (by omega) ?_
  refine f_aload_n hZ dL_law_427 rfl ?_
  refine f_iload_n hZ dL_law_428 rfl ?_
  refine f_iconst hZ dL_law_429 ?_
  refine f_iadd hZ dL_law_430 ?_
  refine f_lld hZ hS dL_law_431 (by omega) (by omega) ?_
  refine vL_53 hZ dL_law_432 (t_X6_spans (lxr xs (i + 1)) (lxr xs (i + 2)) hg hk) (fun a1 M1 r1 q1 => ?_)
  refine f_aload_n hZ dL_law_435 rfl ?_
  refine f_aload_n hZ dL_law_436 rfl ?_
  refine f_iload_n hZ dL_law_437 rfl ?_
  refine f_iconst hZ dL_law_438 ?_
  refine f_iadd hZ dL_law_439 ?_
  refine f_lld hZ hS dL_law_440 (by omega) (by omega) ?_
  refine f_aload_n hZ dL_law_441 rfl ?_
  refine f_iload_n hZ dL_law_442 rfl ?_
  refine f_iconst hZ dL_law_443 ?_
  refine f_iadd hZ dL_law_444 ?_
  refine f_lld hZ hS dL_law_445 (by omega) (by omega) ?_
  refine vL_56 hZ dL_law_446 (p_spans h hW (lxr xs (i + 1)) (lxr xs (i + 2)) q1) (fun a2 M2 r2 q2 => ?_)
  exact f_ieq (tgt := 1103) hZ dL_law_449 rfl r1 r2 (fun _ => nx M2 q2.2) (fun e => absurd q2.1.symm e)
set_option maxRecDepth 20000 in
theorem lc_tell (hZ : Cx X mL 101 Z) (hS : lS Z b n xs) (h : Rel M) (h0 : 0 ≤ i) (h1 : i + 6 ≤ n) (nx : ∀ M1, Rel M1 → fG X mL Z 1103 (lL X b i) [] M1) : fG X mL Z 454 (lL X b i) [] M := by
  obtain ⟨W, hW, hk⟩ := h.rn
  have hg := h.gOk hW
  unfold lL
  refine f_aload_n hZ dL_law_454 rfl ?_
  refine f_aload_n hZ dL_law_455 rfl ?_
  refine f_iload_n hZ dL_law_456 rfl ?_
  refine f_iconst hZ dL_law_457 ?_
  refine f_iadd hZ dL_law_458 ?_
  refine f_lld hZ hS dL_law_459 (by omega) (by omega) ?_
  refine f_aload_n hZ dL_law_460 rfl ?_
  refine f_iload_n hZ dL_law_461 rfl ?_
  refine f_iconst hZ dL_law_462 ?_
  refine f_iadd hZ dL_law_463 ?_
  refine f_lld hZ hS dL_law_464 (by omega) (by omega) ?_
  refine f_aload_n hZ dL_law_465 rfl ?_
  refine f_iload_n hZ dL_law_466 rfl ?_
  refine f_iconst hZ dL_law_467 ?_
  refine f_iadd hZ dL_law_468 ?_
  refine f_lld hZ hS dL_law_469 (by omega) (by omega) ?_
  refine vL_57 hZ dL_law_470 (t_X6_tell (lxr xs (i + 1)) (lxr xs (i + 2)) (lxr xs (i + 3)) hg hk) (fun a1 M1 r1 q1 => ?_)
  refine f_aload_n hZ dL_law_473 rfl ?_
  refine f_aload_n hZ dL_law_474 rfl ?_
  refine f_iload_n hZ dL_law_475 rfl ?_
  refine f_iconst hZ dL_law_476 ?_
  refine f_iadd hZ dL_law_477 ?_
  refine f_lld hZ hS dL_law_478 (by omega) (by omega) ?_
  refine f_aload_n hZ dL_law_479 rfl ?_
  refine f_iload_n hZ dL_law_480 rfl ?_
  refine f_iconst hZ dL_law_481 ?_
  refine f_iadd hZ dL_law_482 ?_
  refine f_lld hZ hS dL_law_483 (by omega) (by omega) ?_
  refine f_aload_n hZ dL_law_484 rfl ?_
  refine f_iload_n hZ dL_law_485 rfl ?_
  refine f_iconst hZ dL_law_486 ?_
  refine f_iadd hZ dL_law_487 ?_
  refine f_lld hZ hS dL_law_488 (by omega) (by omega) ?_
  refine vL_60 hZ dL_law_489 (p_tell h hW (lxr xs (i + 1)) (lxr xs (i + 2)) (lxr xs (i + 3)) q1) (fun a2 M2 r2 q2 => ?_)
  exact f_ieq (tgt := 1103) hZ dL_law_492 rfl r1 r2 (fun _ => nx M2 q2.2) (fun e => absurd q2.1.symm e)
set_option maxRecDepth 20000 in
theorem lc_between (hZ : Cx X mL 101 Z) (hS : lS Z b n xs) (h : Rel M) (h0 : 0 ≤ i) (h1 : i + 6 ≤ n) (nx : ∀ M1, Rel M1 → fG X mL Z 1103 (lL X b i) [] M1) : fG X mL Z 497 (lL X b i) [] M := by
  obtain ⟨W, hW, hk⟩ := h.rn
  have hg := h.gOk hW
  unfold lL
  refine f_aload_n hZ dL_law_497 rfl ?_
  refine f_aload_n hZ dL_law_498 rfl ?_
  refine f_iload_n hZ dL_law_499 rfl ?_
  refine f_iconst hZ dL_law_500 ?_
  refine f_iadd hZ dL_law_501 ?_
  refine f_lld hZ hS dL_law_502 (by omega) (by omega) ?_
  refine f_aload_n hZ dL_law_503 rfl ?_
  refine f_iload_n hZ dL_law_504 rfl ?_
  refine f_iconst hZ dL_law_505 ?_
  refine f_iadd hZ dL_law_506 ?_
  refine f_lld hZ hS dL_law_507 (by omega) (by omega) ?_
  refine vL_61 hZ dL_law_508 (t_X6_between (lxr xs (i + 1)) (lxr xs (i + 2)) hg hk) (fun a1 M1 r1 q1 => ?_)
  refine f_aload_n hZ dL_law_511 rfl ?_
  refine f_aload_n hZ dL_law_512 rfl ?_
  refine f_iload_n hZ dL_law_513 rfl ?_
  refine f_iconst hZ dL_law_514 ?_
  refine f_iadd hZ dL_law_515 ?_
  refine f_lld hZ hS dL_law_516 (by omega) (by omega) ?_
  refine f_aload_n hZ dL_law_517 rfl ?_
  refine f_iload_n hZ dL_law_518 rfl ?_
  refine f_iconst hZ dL_law_519 ?_
  refine f_iadd hZ dL_law_520 ?_
  refine f_lld hZ hS dL_law_521 (by omega) (by omega) ?_
  refine vL_64 hZ dL_law_522 (p_between h hW (lxr xs (i + 1)) (lxr xs (i + 2)) q1) (fun a2 M2 r2 q2 => ?_)
  exact f_ieq (tgt := 1103) hZ dL_law_525 rfl r1 r2 (fun _ => nx M2 q2.2) (fun e => absurd q2.1.symm e)
set_option maxRecDepth 20000 in
theorem lc_worth (hZ : Cx X mL 101 Z) (hS : lS Z b n xs) (h : Rel M) (h0 : 0 ≤ i) (h1 : i + 6 ≤ n) (nx : ∀ M1, Rel M1 → fG X mL Z 1103 (lL X b i) [] M1) : fG X mL Z 530 (lL X b i) [] M := by
  obtain ⟨W, hW, hk⟩ := h.rn
  have hg := h.gOk hW
  unfold lL
  refine f_aload_n hZ dL_law_530 rfl ?_
  refine f_aload_n hZ dL_law_531 rfl ?_
  refine f_iload_n hZ dL_law_532 rfl ?_
  refine f_iconst hZ dL_law_533 ?_
  refine f_iadd hZ dL_law_534 ?_
  refine f_lld hZ hS dL_law_535 (by omega) (by omega) ?_
  refine f_aload_n hZ dL_law_536 rfl ?_
  refine f_iload_n hZ dL_law_537 rfl ?_
  refine f_iconst hZ dL_law_538 ?_
  refine f_iadd hZ dL_law_539 ?_
  refine f_lld hZ hS dL_law_540 (by omega) (by omega) ?_
  refine vL_65 hZ dL_law_541 (t_X6_worth (lxr xs (i + 1)) (lxr xs (i + 2)) hg hk) (fun a1 M1 r1 q1 => ?_)
  refine f_aload_n hZ dL_law_544 rfl ?_
  refine f_aload_n hZ dL_law_545 rfl ?_
  refine f_iload_n hZ dL_law_546 rfl ?_
  refine f_iconst hZ dL_law_547 ?_
  refine f_iadd hZ dL_law_548 ?_
  refine f_lld hZ hS dL_law_549 (by omega) (by omega) ?_
  refine f_aload_n hZ dL_law_550 rfl ?_
  refine f_iload_n hZ dL_law_551 rfl ?_
  refine f_iconst hZ dL_law_552 ?_
  refine f_iadd hZ dL_law_553 ?_
  refine f_lld hZ hS dL_law_554 (by omega) (by omega) ?_
  refine vL_68 hZ dL_law_555 (p_worth h hW (lxr xs (i + 1)) (lxr xs (i + 2)) q1) (fun a2 M2 r2 q2 => ?_)
  exact f_ieq (tgt := 1103) hZ dL_law_558 rfl r1 r2 (fun _ => nx M2 q2.2) (fun e => absurd q2.1.symm e)
set_option maxRecDepth 20000 in
theorem lc_sure (hZ : Cx X mL 101 Z) (hS : lS Z b n xs) (h : Rel M) (h0 : 0 ≤ i) (h1 : i + 6 ≤ n) (nx : ∀ M1, Rel M1 → fG X mL Z 1103 (lL X b i) [] M1) : fG X mL Z 563 (lL X b i) [] M := by
  obtain ⟨W, hW, hk⟩ := h.rn
  have hg := h.gOk hW
  unfold lL
  refine f_aload_n hZ dL_law_563 rfl ?_
  refine f_aload_n hZ dL_law_564 rfl ?_
  refine f_iload_n hZ dL_law_565 rfl ?_
  refine f_iconst hZ dL_law_566 ?_
  refine f_iadd hZ dL_law_567 ?_
  refine f_lld hZ hS dL_law_568 (by omega) (by omega) ?_
  refine vL_69 hZ dL_law_569 (t_X6_sure (lxr xs (i + 1)) hg hk) (fun a1 M1 r1 q1 => ?_)
  refine f_aload_n hZ dL_law_572 rfl ?_
  refine f_aload_n hZ dL_law_573 rfl ?_
  refine f_iload_n hZ dL_law_574 rfl ?_
  refine f_iconst hZ dL_law_575 ?_
  refine f_iadd hZ dL_law_576 ?_
  refine f_lld hZ hS dL_law_577 (by omega) (by omega) ?_
  refine vL_73 hZ dL_law_578 (p_sure h hW (lxr xs (i + 1)) q1) (fun a2 M2 r2 q2 => ?_)
  refine f_lcmp hZ dL_law_581 r1 r2 ?_
  exact f_eq (tgt := 1103) hZ dL_law_582 rfl (rg_cmpJ _ _) (fun _ => nx M2 q2.2) (fun e => absurd (cmpJ_eq.mpr q2.1.symm) e)
set_option maxRecDepth 20000 in
theorem lc_cheat (hZ : Cx X mL 101 Z) (hS : lS Z b n xs) (h : Rel M) (h0 : 0 ≤ i) (h1 : i + 6 ≤ n) (nx : ∀ M1, Rel M1 → fG X mL Z 1103 (lL X b i) [] M1) : fG X mL Z 587 (lL X b i) [] M := by
  unfold lL
  refine f_aload_n hZ dL_law_587 rfl ?_
  refine f_aload_n hZ dL_law_588 rfl ?_
  refine f_iload_n hZ dL_law_589 rfl ?_
  refine f_iconst hZ dL_law_590 ?_
  refine f_iadd hZ dL_law_591 ?_
  refine f_lld hZ hS dL_law_592 (by omega) (by omega) ?_
  refine vL_74 hZ dL_law_593 (t_X6_cheat (lxr xs (i + 1)) h.WK) (fun a1 M1 r1 q1 => ?_)
  refine f_aload_n hZ dL_law_596 rfl ?_
  refine f_aload_n hZ dL_law_597 rfl ?_
  refine f_iload_n hZ dL_law_598 rfl ?_
  refine f_iconst hZ dL_law_599 ?_
  refine f_iadd hZ dL_law_600 ?_
  refine f_lld hZ hS dL_law_601 (by omega) (by omega) ?_
  refine vL_77 hZ dL_law_602 (p_cheat h  (lxr xs (i + 1)) q1) (fun a2 M2 r2 q2 => ?_)
  exact f_ieq (tgt := 1103) hZ dL_law_605 rfl r1 r2 (fun _ => nx M2 q2.2) (fun e => absurd q2.1.symm e)
set_option maxRecDepth 20000 in
theorem lc_which (hZ : Cx X mL 101 Z) (hS : lS Z b n xs) (h : Rel M) (h0 : 0 ≤ i) (h1 : i + 6 ≤ n) (nx : ∀ M1, Rel M1 → fG X mL Z 1103 (lL X b i) [] M1) : fG X mL Z 610 (lL X b i) [] M := by
  unfold lL
  refine f_aload_n hZ dL_law_610 rfl ?_
  refine f_aload_n hZ dL_law_611 rfl ?_
  refine f_iload_n hZ dL_law_612 rfl ?_
  refine f_iconst hZ dL_law_613 ?_
  refine f_iadd hZ dL_law_614 ?_
  refine f_lld hZ hS dL_law_615 (by omega) (by omega) ?_
  refine vL_78 hZ dL_law_616 (t_X6_which (lxr xs (i + 1)) h.WK) (fun a1 M1 r1 q1 => ?_)
  refine f_aload_n hZ dL_law_619 rfl ?_
  refine f_aload_n hZ dL_law_620 rfl ?_
  refine f_iload_n hZ dL_law_621 rfl ?_
  refine f_iconst hZ dL_law_622 ?_
  refine f_iadd hZ dL_law_623 ?_
  refine f_lld hZ hS dL_law_624 (by omega) (by omega) ?_
  refine vL_81 hZ dL_law_625 (p_which h  (lxr xs (i + 1)) q1) (fun a2 M2 r2 q2 => ?_)
  exact f_ieq (tgt := 1103) hZ dL_law_628 rfl r1 r2 (fun _ => nx M2 q2.2) (fun e => absurd q2.1.symm e)
set_option maxRecDepth 20000 in
theorem lc_copies (hZ : Cx X mL 101 Z) (hS : lS Z b n xs) (h : Rel M) (h0 : 0 ≤ i) (h1 : i + 6 ≤ n) (nx : ∀ M1, Rel M1 → fG X mL Z 1103 (lL X b i) [] M1) : fG X mL Z 633 (lL X b i) [] M := by
  obtain ⟨W, hW, hk⟩ := h.rn
  have hg := h.gOk hW
  unfold lL
  refine f_aload_n hZ dL_law_633 rfl ?_
  refine f_aload_n hZ dL_law_634 rfl ?_
  refine f_iload_n hZ dL_law_635 rfl ?_
  refine f_iconst hZ dL_law_636 ?_
  refine f_iadd hZ dL_law_637 ?_
  refine f_lld hZ hS dL_law_638 (by omega) (by omega) ?_
  refine f_aload_n hZ dL_law_639 rfl ?_
  refine f_iload_n hZ dL_law_640 rfl ?_
  refine f_iconst hZ dL_law_641 ?_
  refine f_iadd hZ dL_law_642 ?_
  refine f_lld hZ hS dL_law_643 (by omega) (by omega) ?_
  refine f_aload_n hZ dL_law_644 rfl ?_
  refine f_iload_n hZ dL_law_645 rfl ?_
  refine f_iconst hZ dL_law_646 ?_
  refine f_iadd hZ dL_law_647 ?_
  refine f_lld hZ hS dL_law_648 (by omega) (by omega) ?_
  refine vL_82 hZ dL_law_649 (t_X6_copies (lxr xs (i + 1)) (lxr xs (i + 2)) (lxr xs (i + 3)) h.r9.1 h.r9.2.1 hg) (fun a1 M1 r1 q1 => ?_)
  refine f_aload_n hZ dL_law_652 rfl ?_
  refine f_aload_n hZ dL_law_653 rfl ?_
  refine f_iload_n hZ dL_law_654 rfl ?_
  refine f_iconst hZ dL_law_655 ?_
  refine f_iadd hZ dL_law_656 ?_
  refine f_lld hZ hS dL_law_657 (by omega) (by omega) ?_
  refine f_aload_n hZ dL_law_658 rfl ?_
  refine f_iload_n hZ dL_law_659 rfl ?_
  refine f_iconst hZ dL_law_660 ?_
  refine f_iadd hZ dL_law_661 ?_
  refine f_lld hZ hS dL_law_662 (by omega) (by omega) ?_
  refine f_aload_n hZ dL_law_663 rfl ?_
  refine f_iload_n hZ dL_law_664 rfl ?_
  refine f_iconst hZ dL_law_665 ?_
  refine f_iadd hZ dL_law_666 ?_
  refine f_lld hZ hS dL_law_667 (by omega) (by omega) ?_
  refine vL_85 hZ dL_law_668 (p_copies h hW (lxr xs (i + 1)) (lxr xs (i + 2)) (lxr xs (i + 3)) q1) (fun a2 M2 r2 q2 => ?_)
  exact f_ieq (tgt := 1103) hZ dL_law_671 rfl r1 r2 (fun _ => nx M2 q2.2) (fun e => absurd q2.1.symm e)
set_option maxRecDepth 20000 in
theorem lc_best (hZ : Cx X mL 101 Z) (hS : lS Z b n xs) (h : Rel M) (h0 : 0 ≤ i) (h1 : i + 6 ≤ n) (nx : ∀ M1, Rel M1 → fG X mL Z 1103 (lL X b i) [] M1) : fG X mL Z 676 (lL X b i) [] M := by
  obtain ⟨W, hW, hk⟩ := h.rn
  have hg := h.gOk hW
  unfold lL
  refine f_aload_n hZ dL_law_676 rfl ?_
  refine f_aload_n hZ dL_law_677 rfl ?_
  refine f_iload_n hZ dL_law_678 rfl ?_
  refine f_iconst hZ dL_law_679 ?_
  refine f_iadd hZ dL_law_680 ?_
  refine f_lld hZ hS dL_law_681 (by omega) (by omega) ?_
  refine f_aload_n hZ dL_law_682 rfl ?_
  refine f_iload_n hZ dL_law_683 rfl ?_
  refine f_iconst hZ dL_law_684 ?_
  refine f_iadd hZ dL_law_685 ?_
  refine f_lld hZ hS dL_law_686 (by omega) (by omega) ?_
  refine f_aload_n hZ dL_law_687 rfl ?_
  refine f_iload_n hZ dL_law_688 rfl ?_
  refine f_iconst hZ dL_law_689 ?_
  refine f_iadd hZ dL_law_690 ?_
  refine f_lld hZ hS dL_law_691 (by omega) (by omega) ?_
  refine vL_86 hZ dL_law_692 (t_X6_best (lxr xs (i + 1)) (lxr xs (i + 2)) (lxr xs (i + 3)) h.r9.1 h.r9.2.1 hg) (fun a1 M1 r1 q1 => ?_)
  refine f_aload_n hZ dL_law_695 rfl ?_
  refine f_aload_n hZ dL_law_696 rfl ?_
  refine f_iload_n hZ dL_law_697 rfl ?_
  refine f_iconst hZ dL_law_698 ?_
  refine f_iadd hZ dL_law_699 ?_
  refine f_lld hZ hS dL_law_700 (by omega) (by omega) ?_
  refine f_aload_n hZ dL_law_701 rfl ?_
  refine f_iload_n hZ dL_law_702 rfl ?_
  refine f_iconst hZ dL_law_703 ?_
  refine f_iadd hZ dL_law_704 ?_
  refine f_lld hZ hS dL_law_705 (by omega) (by omega) ?_
  refine f_aload_n hZ dL_law_706 rfl ?_
  refine f_iload_n hZ dL_law_707 rfl ?_
  refine f_iconst hZ dL_law_708 ?_
  refine f_iadd hZ dL_law_709 ?_
  refine f_lld hZ hS dL_law_710 (by omega) (by omega) ?_
  refine vL_89 hZ dL_law_711 (p_best h hW (lxr xs (i + 1)) (lxr xs (i + 2)) (lxr xs (i + 3)) q1) (fun a2 M2 r2 q2 => ?_)
  exact f_ieq (tgt := 1103) hZ dL_law_714 rfl r1 r2 (fun _ => nx M2 q2.2) (fun e => absurd q2.1.symm e)
set_option maxRecDepth 20000 in
theorem lc_judge (hZ : Cx X mL 101 Z) (hS : lS Z b n xs) (h : Rel M) (h0 : 0 ≤ i) (h1 : i + 6 ≤ n) (nx : ∀ M1, Rel M1 → fG X mL Z 1103 (lL X b i) [] M1) : fG X mL Z 719 (lL X b i) [] M := by
  unfold lL
  refine f_aload_n hZ dL_law_719 rfl ?_
  refine f_aload_n hZ dL_law_720 rfl ?_
  refine f_iload_n hZ dL_law_721 rfl ?_
  refine f_iconst hZ dL_law_722 ?_
  refine f_iadd hZ dL_law_723 ?_
  refine f_lld hZ hS dL_law_724 (by omega) (by omega) ?_
  refine vL_90 hZ dL_law_725 (t_X6_judge (lxr xs (i + 1)) h.WS h.WK) (fun a1 M1 r1 q1 => ?_)
  refine f_aload_n hZ dL_law_728 rfl ?_
  refine f_aload_n hZ dL_law_729 rfl ?_
  refine f_iload_n hZ dL_law_730 rfl ?_
  refine f_iconst hZ dL_law_731 ?_
  refine f_iadd hZ dL_law_732 ?_
  refine f_lld hZ hS dL_law_733 (by omega) (by omega) ?_
  refine vL_93 hZ dL_law_734 (p_judge h  (lxr xs (i + 1)) q1) (fun a2 M2 r2 q2 => ?_)
  exact f_ieq (tgt := 1103) hZ dL_law_737 rfl r1 r2 (fun _ => nx M2 q2.2) (fun e => absurd q2.1.symm e)
set_option maxRecDepth 20000 in
theorem lc_drawn (hZ : Cx X mL 101 Z) (hS : lS Z b n xs) (h : Rel M) (h0 : 0 ≤ i) (h1 : i + 6 ≤ n) (nx : ∀ M1, Rel M1 → fG X mL Z 1103 (lL X b i) [] M1) : fG X mL Z 742 (lL X b i) [] M := by
  unfold lL
  refine f_aload_n hZ dL_law_742 rfl ?_
  refine f_aload_n hZ dL_law_743 rfl ?_
  refine f_iload_n hZ dL_law_744 rfl ?_
  refine f_iconst hZ dL_law_745 ?_
  refine f_iadd hZ dL_law_746 ?_
  refine f_lld hZ hS dL_law_747 (by omega) (by omega) ?_
  refine vL_94 hZ dL_law_748 (t_X6_drawn  h.WK) (fun a1 M1 r1 q1 => ?_)
  refine f_aload_n hZ dL_law_751 rfl ?_
  refine f_aload_n hZ dL_law_752 rfl ?_
  refine f_iload_n hZ dL_law_753 rfl ?_
  refine f_iconst hZ dL_law_754 ?_
  refine f_iadd hZ dL_law_755 ?_
  refine f_lld hZ hS dL_law_756 (by omega) (by omega) ?_
  refine vL_97 hZ dL_law_757 (p_drawn h   q1) (fun a2 M2 r2 q2 => ?_)
  exact f_ieq (tgt := 1103) hZ dL_law_760 rfl r1 r2 (fun _ => nx M2 q2.2) (fun e => absurd q2.1.symm e)
set_option maxRecDepth 20000 in
theorem lc_chance (hZ : Cx X mL 101 Z) (hS : lS Z b n xs) (h : Rel M) (h0 : 0 ≤ i) (h1 : i + 6 ≤ n) (nx : ∀ M1, Rel M1 → fG X mL Z 1103 (lL X b i) [] M1) : fG X mL Z 765 (lL X b i) [] M := by
  unfold lL
  refine f_aload_n hZ dL_law_765 rfl ?_
  refine f_aload_n hZ dL_law_766 rfl ?_
  refine f_iload_n hZ dL_law_767 rfl ?_
  refine f_iconst hZ dL_law_768 ?_
  refine f_iadd hZ dL_law_769 ?_
  refine f_lld hZ hS dL_law_770 (by omega) (by omega) ?_
  refine f_aload_n hZ dL_law_771 rfl ?_
  refine f_iload_n hZ dL_law_772 rfl ?_
  refine f_iconst hZ dL_law_773 ?_
  refine f_iadd hZ dL_law_774 ?_
  refine f_lld hZ hS dL_law_775 (by omega) (by omega) ?_
  refine f_aload_n hZ dL_law_776 rfl ?_
  refine f_iload_n hZ dL_law_777 rfl ?_
  refine f_iconst hZ dL_law_778 ?_
  refine f_iadd hZ dL_law_779 ?_
  refine f_lld hZ hS dL_law_780 (by omega) (by omega) ?_
  refine f_aload_n hZ dL_law_781 rfl ?_
  refine f_iload_n hZ dL_law_782 rfl ?_
  refine f_iconst hZ dL_law_783 ?_
  refine f_iadd hZ dL_law_784 ?_
  refine f_lld hZ hS dL_law_785 (by omega) (by omega) ?_
  refine vL_98 hZ dL_law_786 (t_X6_chance (lxr xs (i + 2)) (lxr xs (i + 3)) (lxr xs (i + 4)) h.WK) (fun a1 M1 r1 q1 => ?_)
  refine f_aload_n hZ dL_law_789 rfl ?_
  refine f_aload_n hZ dL_law_790 rfl ?_
  refine f_iload_n hZ dL_law_791 rfl ?_
  refine f_iconst hZ dL_law_792 ?_
  refine f_iadd hZ dL_law_793 ?_
  refine f_lld hZ hS dL_law_794 (by omega) (by omega) ?_
  refine f_aload_n hZ dL_law_795 rfl ?_
  refine f_iload_n hZ dL_law_796 rfl ?_
  refine f_iconst hZ dL_law_797 ?_
  refine f_iadd hZ dL_law_798 ?_
  refine f_lld hZ hS dL_law_799 (by omega) (by omega) ?_
  refine f_aload_n hZ dL_law_800 rfl ?_
  refine f_iload_n hZ dL_law_801 rfl ?_
  refine f_iconst hZ dL_law_802 ?_
  refine f_iadd hZ dL_law_803 ?_
  refine f_lld hZ hS dL_law_804 (by omega) (by omega) ?_
  refine f_aload_n hZ dL_law_805 rfl ?_
  refine f_iload_n hZ dL_law_806 rfl ?_
  refine f_iconst hZ dL_law_807 ?_
  refine f_iadd hZ dL_law_808 ?_
  refine f_lld hZ hS dL_law_809 (by omega) (by omega) ?_
  refine vL_102 hZ dL_law_810 (p_chance h  (lxr xs (i + 2)) (lxr xs (i + 3)) (lxr xs (i + 4)) q1) (fun a2 M2 r2 q2 => ?_)
  refine f_lcmp hZ dL_law_813 r1 r2 ?_
  exact f_eq (tgt := 1103) hZ dL_law_814 rfl (rg_cmpJ _ _) (fun _ => nx M2 q2.2) (fun e => absurd (cmpJ_eq.mpr q2.1.symm) e)
set_option maxRecDepth 20000 in
theorem lc_image (hZ : Cx X mL 101 Z) (hS : lS Z b n xs) (h : Rel M) (h0 : 0 ≤ i) (h1 : i + 6 ≤ n) (nx : ∀ M1, Rel M1 → fG X mL Z 1103 (lL X b i) [] M1) : fG X mL Z 819 (lL X b i) [] M := by
  unfold lL
  refine f_aload_n hZ dL_law_819 rfl ?_
  refine vL_103 hZ dL_law_820 (t_X6_image  ) (fun a1 M1 r1 q1 => ?_)
  refine f_aload_n hZ dL_law_823 rfl ?_
  refine vL_106 hZ dL_law_824 (p_image h   q1) (fun a2 M2 r2 q2 => ?_)
  exact f_ieq (tgt := 1103) hZ dL_law_827 rfl r1 r2 (fun _ => nx M2 q2.2) (fun e => absurd q2.1.symm e)
set_option maxRecDepth 20000 in
theorem lc_back (hZ : Cx X mL 101 Z) (hS : lS Z b n xs) (h : Rel M) (h0 : 0 ≤ i) (h1 : i + 6 ≤ n) (nx : ∀ M1, Rel M1 → fG X mL Z 1103 (lL X b i) [] M1) : fG X mL Z 832 (lL X b i) [] M := by
  unfold lL
  refine f_aload_n hZ dL_law_832 rfl ?_
  refine vL_107 hZ dL_law_833 (t_X6_back  ) (fun a1 M1 r1 q1 => ?_)
  refine f_aload_n hZ dL_law_836 rfl ?_
  refine vL_110 hZ dL_law_837 (p_back h   q1) (fun a2 M2 r2 q2 => ?_)
  exact f_ieq (tgt := 1103) hZ dL_law_840 rfl r1 r2 (fun _ => nx M2 q2.2) (fun e => absurd q2.1.symm e)
set_option maxRecDepth 20000 in
theorem lc_count (hZ : Cx X mL 101 Z) (hS : lS Z b n xs) (h : Rel M) (h0 : 0 ≤ i) (h1 : i + 6 ≤ n) (nx : ∀ M1, Rel M1 → fG X mL Z 1103 (lL X b i) [] M1) : fG X mL Z 845 (lL X b i) [] M := by
  unfold lL
  refine f_aload_n hZ dL_law_845 rfl ?_
  refine f_aload_n hZ dL_law_846 rfl ?_
  refine f_iload_n hZ dL_law_847 rfl ?_
  refine f_iconst hZ dL_law_848 ?_
  refine f_iadd hZ dL_law_849 ?_
  refine f_lld hZ hS dL_law_850 (by omega) (by omega) ?_
  refine vL_111 hZ dL_law_851 (t_X6_count (lxr xs (i + 1)) h.WK) (fun a1 M1 r1 q1 => ?_)
  refine f_aload_n hZ dL_law_854 rfl ?_
  refine f_aload_n hZ dL_law_855 rfl ?_
  refine f_iload_n hZ dL_law_856 rfl ?_
  refine f_iconst hZ dL_law_857 ?_
  refine f_iadd hZ dL_law_858 ?_
  refine f_lld hZ hS dL_law_859 (by omega) (by omega) ?_
  refine vL_114 hZ dL_law_860 (p_count h  (lxr xs (i + 1)) q1) (fun a2 M2 r2 q2 => ?_)
  exact f_ieq (tgt := 1103) hZ dL_law_863 rfl r1 r2 (fun _ => nx M2 q2.2) (fun e => absurd q2.1.symm e)
set_option maxRecDepth 20000 in
theorem lc_sheet (hZ : Cx X mL 101 Z) (hS : lS Z b n xs) (h : Rel M) (h0 : 0 ≤ i) (h1 : i + 6 ≤ n) (nx : ∀ M1, Rel M1 → fG X mL Z 1103 (lL X b i) [] M1) : fG X mL Z 868 (lL X b i) [] M := by
  unfold lL
  refine f_aload_n hZ dL_law_868 rfl ?_
  refine f_aload_n hZ dL_law_869 rfl ?_
  refine f_iload_n hZ dL_law_870 rfl ?_
  refine f_iconst hZ dL_law_871 ?_
  refine f_iadd hZ dL_law_872 ?_
  refine f_lld hZ hS dL_law_873 (by omega) (by omega) ?_
  refine f_aload_n hZ dL_law_874 rfl ?_
  refine f_iload_n hZ dL_law_875 rfl ?_
  refine f_iconst hZ dL_law_876 ?_
  refine f_iadd hZ dL_law_877 ?_
  refine f_lld hZ hS dL_law_878 (by omega) (by omega) ?_
  refine f_aload_n hZ dL_law_879 rfl ?_
  refine f_iload_n hZ dL_law_880 rfl ?_
  refine f_iconst hZ dL_law_881 ?_
  refine f_iadd hZ dL_law_882 ?_
  refine f_lld hZ hS dL_law_883 (by omega) (by omega) ?_
  refine vL_115 hZ dL_law_884 (t_X6_sheet (lxr xs (i + 1)) (lxr xs (i + 2)) (lxr xs (i + 3)) ) (fun a1 M1 r1 q1 => ?_)
  refine f_aload_n hZ dL_law_887 rfl ?_
  refine f_aload_n hZ dL_law_888 rfl ?_
  refine f_iload_n hZ dL_law_889 rfl ?_
  refine f_iconst hZ dL_law_890 ?_
  refine f_iadd hZ dL_law_891 ?_
  refine f_lld hZ hS dL_law_892 (by omega) (by omega) ?_
  refine f_aload_n hZ dL_law_893 rfl ?_
  refine f_iload_n hZ dL_law_894 rfl ?_
  refine f_iconst hZ dL_law_895 ?_
  refine f_iadd hZ dL_law_896 ?_
  refine f_lld hZ hS dL_law_897 (by omega) (by omega) ?_
  refine f_aload_n hZ dL_law_898 rfl ?_
  refine f_iload_n hZ dL_law_899 rfl ?_
  refine f_iconst hZ dL_law_900 ?_
  refine f_iadd hZ dL_law_901 ?_
  refine f_lld hZ hS dL_law_902 (by omega) (by omega) ?_
  refine vL_118 hZ dL_law_903 (p_sheet h  (lxr xs (i + 1)) (lxr xs (i + 2)) (lxr xs (i + 3)) q1) (fun a2 M2 r2 q2 => ?_)
  exact f_ieq (tgt := 1103) hZ dL_law_906 rfl r1 r2 (fun _ => nx M2 q2.2) (fun e => absurd q2.1.symm e)
set_option maxRecDepth 20000 in
theorem lc_cell (hZ : Cx X mL 101 Z) (hS : lS Z b n xs) (h : Rel M) (h0 : 0 ≤ i) (h1 : i + 6 ≤ n) (nx : ∀ M1, Rel M1 → fG X mL Z 1103 (lL X b i) [] M1) : fG X mL Z 911 (lL X b i) [] M := by
  unfold lL
  refine f_aload_n hZ dL_law_911 rfl ?_
  refine f_aload_n hZ dL_law_912 rfl ?_
  refine f_iload_n hZ dL_law_913 rfl ?_
  refine f_iconst hZ dL_law_914 ?_
  refine f_iadd hZ dL_law_915 ?_
  refine f_lld hZ hS dL_law_916 (by omega) (by omega) ?_
  refine f_aload_n hZ dL_law_917 rfl ?_
  refine f_iload_n hZ dL_law_918 rfl ?_
  refine f_iconst hZ dL_law_919 ?_
  refine f_iadd hZ dL_law_920 ?_
  refine f_lld hZ hS dL_law_921 (by omega) (by omega) ?_
  refine f_aload_n hZ dL_law_922 rfl ?_
  refine f_iload_n hZ dL_law_923 rfl ?_
  refine f_iconst hZ dL_law_924 ?_
  refine f_iadd hZ dL_law_925 ?_
  refine f_lld hZ hS dL_law_926 (by omega) (by omega) ?_
  refine vL_119 hZ dL_law_927 (t_X6_cell (lxr xs (i + 1)) (lxr xs (i + 2)) (lxr xs (i + 3)) h.WS) (fun a1 M1 r1 q1 => ?_)
  refine f_aload_n hZ dL_law_930 rfl ?_
  refine f_aload_n hZ dL_law_931 rfl ?_
  refine f_iload_n hZ dL_law_932 rfl ?_
  refine f_iconst hZ dL_law_933 ?_
  refine f_iadd hZ dL_law_934 ?_
  refine f_lld hZ hS dL_law_935 (by omega) (by omega) ?_
  refine f_aload_n hZ dL_law_936 rfl ?_
  refine f_iload_n hZ dL_law_937 rfl ?_
  refine f_iconst hZ dL_law_938 ?_
  refine f_iadd hZ dL_law_939 ?_
  refine f_lld hZ hS dL_law_940 (by omega) (by omega) ?_
  refine f_aload_n hZ dL_law_941 rfl ?_
  refine f_iload_n hZ dL_law_942 rfl ?_
  refine f_iconst hZ dL_law_943 ?_
  refine f_iadd hZ dL_law_944 ?_
  refine f_lld hZ hS dL_law_945 (by omega) (by omega) ?_
  refine vL_122 hZ dL_law_946 (p_cell h  (lxr xs (i + 1)) (lxr xs (i + 2)) (lxr xs (i + 3)) q1) (fun a2 M2 r2 q2 => ?_)
  exact f_ieq (tgt := 1103) hZ dL_law_949 rfl r1 r2 (fun _ => nx M2 q2.2) (fun e => absurd q2.1.symm e)
set_option maxRecDepth 20000 in
theorem lc_copy (hZ : Cx X mL 101 Z) (hS : lS Z b n xs) (h : Rel M) (h0 : 0 ≤ i) (h1 : i + 6 ≤ n) (nx : ∀ M1, Rel M1 → fG X mL Z 1103 (lL X b i) [] M1) : fG X mL Z 954 (lL X b i) [] M := by
  unfold lL
  refine f_aload_n hZ dL_law_954 rfl ?_
  refine f_aload_n hZ dL_law_955 rfl ?_
  refine f_iload_n hZ dL_law_956 rfl ?_
  refine f_iconst hZ dL_law_957 ?_
  refine f_iadd hZ dL_law_958 ?_
  refine f_lld hZ hS dL_law_959 (by omega) (by omega) ?_
  refine f_aload_n hZ dL_law_960 rfl ?_
  refine f_iload_n hZ dL_law_961 rfl ?_
  refine f_iconst hZ dL_law_962 ?_
  refine f_iadd hZ dL_law_963 ?_
  refine f_lld hZ hS dL_law_964 (by omega) (by omega) ?_
  refine f_aload_n hZ dL_law_965 rfl ?_
  refine f_iload_n hZ dL_law_966 rfl ?_
  refine f_iconst hZ dL_law_967 ?_
  refine f_iadd hZ dL_law_968 ?_
  refine f_lld hZ hS dL_law_969 (by omega) (by omega) ?_
  refine f_aload_n hZ dL_law_970 rfl ?_
  refine f_iload_n hZ dL_law_971 rfl ?_
  refine f_iconst hZ dL_law_972 ?_
  refine f_iadd hZ dL_law_973 ?_
  refine f_lld hZ hS dL_law_974 (by omega) (by omega) ?_
  refine f_aload_n hZ dL_law_975 rfl ?_
  refine f_iload_n hZ dL_law_976 rfl ?_
  refine f_iconst hZ dL_law_977 ?_
  refine f_iadd hZ dL_law_978 ?_
  refine f_lld hZ hS dL_law_979 (by omega) (by omega) ?_
  refine vL_123 hZ dL_law_980 (t_X6_copy (lxr xs (i + 1)) (lxr xs (i + 2)) (lxr xs (i + 3)) (lxr xs (i + 4)) (lxr xs (i + 5)) h.WS) (fun a1 M1 r1 q1 => ?_)
  refine f_aload_n hZ dL_law_983 rfl ?_
  refine f_aload_n hZ dL_law_984 rfl ?_
  refine f_iload_n hZ dL_law_985 rfl ?_
  refine f_iconst hZ dL_law_986 ?_
  refine f_iadd hZ dL_law_987 ?_
  refine f_lld hZ hS dL_law_988 (by omega) (by omega) ?_
  refine f_aload_n hZ dL_law_989 rfl ?_
  refine f_iload_n hZ dL_law_990 rfl ?_
  refine f_iconst hZ dL_law_991 ?_
  refine f_iadd hZ dL_law_992 ?_
  refine f_lld hZ hS dL_law_993 (by omega) (by omega) ?_
  refine f_aload_n hZ dL_law_994 rfl ?_
  refine f_iload_n hZ dL_law_995 rfl ?_
  refine f_iconst hZ dL_law_996 ?_
  refine f_iadd hZ dL_law_997 ?_
  refine f_lld hZ hS dL_law_998 (by omega) (by omega) ?_
  refine f_aload_n hZ dL_law_999 rfl ?_
  refine f_iload_n hZ dL_law_1000 rfl ?_
  refine f_iconst hZ dL_law_1001 ?_
  refine f_iadd hZ dL_law_1002 ?_
  refine f_lld hZ hS dL_law_1003 (by omega) (by omega) ?_
  refine f_aload_n hZ dL_law_1004 rfl ?_
  refine f_iload_n hZ dL_law_1005 rfl ?_
  refine f_iconst hZ dL_law_1006 ?_
  refine f_iadd hZ dL_law_1007 ?_
  refine f_lld hZ hS dL_law_1008 (by omega) (by omega) ?_
  refine vL_127 hZ dL_law_1009 (p_copy h  (lxr xs (i + 1)) (lxr xs (i + 2)) (lxr xs (i + 3)) (lxr xs (i + 4)) (lxr xs (i + 5)) q1) (fun a2 M2 r2 q2 => ?_)
  exact f_ieq (tgt := 1103) hZ dL_law_1012 rfl r1 r2 (fun _ => nx M2 q2.2) (fun e => absurd q2.1.symm e)
set_option maxRecDepth 20000 in
theorem lc_wicks (hZ : Cx X mL 101 Z) (hS : lS Z b n xs) (h : Rel M) (h0 : 0 ≤ i) (h1 : i + 6 ≤ n) (nx : ∀ M1, Rel M1 → fG X mL Z 1103 (lL X b i) [] M1) : fG X mL Z 1017 (lL X b i) [] M := by
  unfold lL
  refine f_aload_n hZ dL_law_1017 rfl ?_
  refine f_aload_n hZ dL_law_1018 rfl ?_
  refine f_iload_n hZ dL_law_1019 rfl ?_
  refine f_iconst hZ dL_law_1020 ?_
  refine f_iadd hZ dL_law_1021 ?_
  refine f_lld hZ hS dL_law_1022 (by omega) (by omega) ?_
  refine f_aload_n hZ dL_law_1023 rfl ?_
  refine f_iload_n hZ dL_law_1024 rfl ?_
  refine f_iconst hZ dL_law_1025 ?_
  refine f_iadd hZ dL_law_1026 ?_
  refine f_lld hZ hS dL_law_1027 (by omega) (by omega) ?_
  refine f_aload_n hZ dL_law_1028 rfl ?_
  refine f_iload_n hZ dL_law_1029 rfl ?_
  refine f_iconst hZ dL_law_1030 ?_
  refine f_iadd hZ dL_law_1031 ?_
  refine f_lld hZ hS dL_law_1032 (by omega) (by omega) ?_
  refine f_aload_n hZ dL_law_1033 rfl ?_
  refine f_iload_n hZ dL_law_1034 rfl ?_
  refine f_iconst hZ dL_law_1035 ?_
  refine f_iadd hZ dL_law_1036 ?_
  refine f_lld hZ hS dL_law_1037 (by omega) (by omega) ?_
  refine vL_128 hZ dL_law_1038 (t_X6_wicks (lxr xs (i + 1)) (lxr xs (i + 2)) (lxr xs (i + 3)) (lxr xs (i + 4)) h.WS h.WK.1) (fun a1 M1 r1 q1 => ?_)
  refine f_aload_n hZ dL_law_1041 rfl ?_
  refine f_aload_n hZ dL_law_1042 rfl ?_
  refine f_iload_n hZ dL_law_1043 rfl ?_
  refine f_iconst hZ dL_law_1044 ?_
  refine f_iadd hZ dL_law_1045 ?_
  refine f_lld hZ hS dL_law_1046 (by omega) (by omega) ?_
  refine f_aload_n hZ dL_law_1047 rfl ?_
  refine f_iload_n hZ dL_law_1048 rfl ?_
  refine f_iconst hZ dL_law_1049 ?_
  refine f_iadd hZ dL_law_1050 ?_
  refine f_lld hZ hS dL_law_1051 (by omega) (by omega) ?_
  refine f_aload_n hZ dL_law_1052 rfl ?_
  refine f_iload_n hZ dL_law_1053 rfl ?_
  refine f_iconst hZ dL_law_1054 ?_
  refine f_iadd hZ dL_law_1055 ?_
  refine f_lld hZ hS dL_law_1056 (by omega) (by omega) ?_
  refine f_aload_n hZ dL_law_1057 rfl ?_
  refine f_iload_n hZ dL_law_1058 rfl ?_
  refine f_iconst hZ dL_law_1059 ?_
  refine f_iadd hZ dL_law_1060 ?_
  refine f_lld hZ hS dL_law_1061 (by omega) (by omega) ?_
  refine vL_132 hZ dL_law_1062 (p_wicks h  (lxr xs (i + 1)) (lxr xs (i + 2)) (lxr xs (i + 3)) (lxr xs (i + 4)) q1) (fun a2 M2 r2 q2 => ?_)
  exact f_ieq (tgt := 1103) hZ dL_law_1065 rfl r1 r2 (fun _ => nx M2 q2.2) (fun e => absurd q2.1.symm e)
set_option maxRecDepth 20000 in
theorem lc_taken (hZ : Cx X mL 101 Z) (hS : lS Z b n xs) (h : Rel M) (h0 : 0 ≤ i) (h1 : i + 6 ≤ n) (nx : ∀ M1, Rel M1 → fG X mL Z 1103 (lL X b i) [] M1) : fG X mL Z 1070 (lL X b i) [] M := by
  unfold lL
  refine f_aload_n hZ dL_law_1070 rfl ?_
  refine f_aload_n hZ dL_law_1071 rfl ?_
  refine f_iload_n hZ dL_law_1072 rfl ?_
  refine f_iconst hZ dL_law_1073 ?_
  refine f_iadd hZ dL_law_1074 ?_
  refine f_lld hZ hS dL_law_1075 (by omega) (by omega) ?_
  refine f_aload_n hZ dL_law_1076 rfl ?_
  refine f_iload_n hZ dL_law_1077 rfl ?_
  refine f_iconst hZ dL_law_1078 ?_
  refine f_iadd hZ dL_law_1079 ?_
  refine f_lld hZ hS dL_law_1080 (by omega) (by omega) ?_
  refine vL_133 hZ dL_law_1081 (t_X6_taken (lxr xs (i + 1)) (lxr xs (i + 2)) h.WK) (fun a1 M1 r1 q1 => ?_)
  refine f_aload_n hZ dL_law_1084 rfl ?_
  refine f_aload_n hZ dL_law_1085 rfl ?_
  refine f_iload_n hZ dL_law_1086 rfl ?_
  refine f_iconst hZ dL_law_1087 ?_
  refine f_iadd hZ dL_law_1088 ?_
  refine f_lld hZ hS dL_law_1089 (by omega) (by omega) ?_
  refine f_aload_n hZ dL_law_1090 rfl ?_
  refine f_iload_n hZ dL_law_1091 rfl ?_
  refine f_iconst hZ dL_law_1092 ?_
  refine f_iadd hZ dL_law_1093 ?_
  refine f_lld hZ hS dL_law_1094 (by omega) (by omega) ?_
  refine vL_136 hZ dL_law_1095 (p_taken h  (lxr xs (i + 1)) (lxr xs (i + 2)) q1) (fun a2 M2 r2 q2 => ?_)
  exact f_ieq (tgt := 1103) hZ dL_law_1098 rfl r1 r2 (fun _ => nx M2 q2.2) (fun e => absurd q2.1.symm e)
set_option maxRecDepth 20000 in
/-- the law's loop: from its head to the answer 1 -/
theorem law_loop (hZ : Cx X mL 101 Z) (hS : lS Z b n xs) (fin : ∀ (i : Int) (M : fM), fG X mL Z 1110 (lL X b i) [.int (iv 1)] M) : ∀ (m : Nat) (i : Int) (M : fM), Rel M → 0 ≤ i → i ≤ n → (n : Int) + 1 ≤ i + m → fG X mL Z 18 (lL X b i) [] M := by
  have hN : n ≤ 3072 := hS.2.2.2
  intro m
  induction m with
  | zero => intro i M h h0 h2 h1; omega
  | succ m ih =>
    intro i M h h0 h2 h1
    have nx : i + 6 ≤ n → ∀ M1, Rel M1 → fG X mL Z 1103 (lL X b i) [] M1 := fun h3 M1 hr => by
      have nxt := ih (i + 6) M1 hr (by omega) (by omega) (by omega)
      unfold lL at nxt ⊢
      refine f_iinc (L' := [_, _, _, _]) hZ dL_law_1103 rfl rfl ?_
      refine f_goto (tgt := 18) hZ dL_law_1106 rfl ?_
      exact nxt
    have fn := fin i M
    have nx1 := fun h3 : i + 6 ≤ n => nx h3 M h
    unfold lL at fn ⊢
    refine f_iload_n hZ dL_law_18 rfl ?_
    refine f_aload_n hZ dL_law_19 rfl ?_
    refine f_llen hZ hS dL_law_20 ?_
    refine f_bipush hZ dL_law_21 ?_
    refine f_isub hZ dL_law_23 ?_
    refine f_igt (tgt := 1109) hZ dL_law_24 rfl (by omega) (by omega) (fun e1 => ?_) (fun e1 => ?_)
    · refine f_iconst hZ dL_law_1109 ?_
      exact fn
    have h3 : i + 6 ≤ n := by omega
    refine f_aload_n hZ dL_law_27 rfl ?_
    refine f_iload_n hZ dL_law_28 rfl ?_
    refine f_lld hZ hS dL_law_29 (by omega) (by omega) ?_
    refine f_bipush hZ dL_law_30 ?_
    refine f_iand hZ dL_law_32 ?_
    have hq : rg (andI (lx xs i) 31) := rg_of _
    generalize andI (lx xs i) 31 = q at hq ⊢
    rcases (show (q < 0 ∨ 28 < q) ∨ q = 0 ∨ q = 1 ∨ q = 2 ∨ q = 3 ∨ q = 4 ∨ q = 5 ∨ q = 6 ∨ q = 7 ∨ q = 8 ∨ q = 9 ∨ q = 10 ∨ q = 11 ∨ q = 12 ∨ q = 13 ∨ q = 14 ∨ q = 15 ∨ q = 16 ∨ q = 17 ∨ q = 18 ∨ q = 19 ∨ q = 20 ∨ q = 21 ∨ q = 22 ∨ q = 23 ∨ q = 24 ∨ q = 25 ∨ q = 26 ∨ q = 27 ∨ q = 28 by omega) with e | e | e | e | e | e | e | e | e | e | e | e | e | e | e | e | e | e | e | e | e | e | e | e | e | e | e | e | e | e
    · refine f_tswOut (tgt := 1103) hZ dL_law_33 hq e rfl ?_
      exact nx1 h3
    · refine f_tswIn (tgt := 164) hZ (0) dL_law_33 e (by omega) (by omega) (by omega) rfl rfl ?_
      exact lc_wick hZ hS h h0 h3 (nx h3)
    · refine f_tswIn (tgt := 207) hZ (1) dL_law_33 e (by omega) (by omega) (by omega) rfl rfl ?_
      exact lc_set hZ hS h h0 h3 (nx h3)
    · refine f_tswIn (tgt := 250) hZ (2) dL_law_33 e (by omega) (by omega) (by omega) rfl rfl ?_
      exact lc_told hZ hS h h0 h3 (nx h3)
    · refine f_tswIn (tgt := 283) hZ (3) dL_law_33 e (by omega) (by omega) (by omega) rfl rfl ?_
      exact lc_feed hZ hS h h0 h3 (nx h3)
    · refine f_tswIn (tgt := 306) hZ (4) dL_law_33 e (by omega) (by omega) (by omega) rfl rfl ?_
      exact lc_text hZ hS h h0 h3 (nx h3)
    · refine f_tswIn (tgt := 319) hZ (5) dL_law_33 e (by omega) (by omega) (by omega) rfl rfl ?_
      exact lc_force hZ hS h h0 h3 (nx h3)
    · refine f_tswIn (tgt := 342) hZ (6) dL_law_33 e (by omega) (by omega) (by omega) rfl rfl ?_
      exact lc_light hZ hS h h0 h3 (nx h3)
    · refine f_tswIn (tgt := 375) hZ (7) dL_law_33 e (by omega) (by omega) (by omega) rfl rfl ?_
      exact lc_burn hZ hS h h0 h3 (nx h3)
    · refine f_tswIn (tgt := 398) hZ (8) dL_law_33 e (by omega) (by omega) (by omega) rfl rfl ?_
      exact lc_out hZ hS h h0 h3 (nx h3)
    · refine f_tswIn (tgt := 421) hZ (9) dL_law_33 e (by omega) (by omega) (by omega) rfl rfl ?_
      exact lc_spans hZ hS h h0 h3 (nx h3)
    · refine f_tswIn (tgt := 454) hZ (10) dL_law_33 e (by omega) (by omega) (by omega) rfl rfl ?_
      exact lc_tell hZ hS h h0 h3 (nx h3)
    · refine f_tswIn (tgt := 497) hZ (11) dL_law_33 e (by omega) (by omega) (by omega) rfl rfl ?_
      exact lc_between hZ hS h h0 h3 (nx h3)
    · refine f_tswIn (tgt := 530) hZ (12) dL_law_33 e (by omega) (by omega) (by omega) rfl rfl ?_
      exact lc_worth hZ hS h h0 h3 (nx h3)
    · refine f_tswIn (tgt := 563) hZ (13) dL_law_33 e (by omega) (by omega) (by omega) rfl rfl ?_
      exact lc_sure hZ hS h h0 h3 (nx h3)
    · refine f_tswIn (tgt := 587) hZ (14) dL_law_33 e (by omega) (by omega) (by omega) rfl rfl ?_
      exact lc_cheat hZ hS h h0 h3 (nx h3)
    · refine f_tswIn (tgt := 610) hZ (15) dL_law_33 e (by omega) (by omega) (by omega) rfl rfl ?_
      exact lc_which hZ hS h h0 h3 (nx h3)
    · refine f_tswIn (tgt := 633) hZ (16) dL_law_33 e (by omega) (by omega) (by omega) rfl rfl ?_
      exact lc_copies hZ hS h h0 h3 (nx h3)
    · refine f_tswIn (tgt := 676) hZ (17) dL_law_33 e (by omega) (by omega) (by omega) rfl rfl ?_
      exact lc_best hZ hS h h0 h3 (nx h3)
    · refine f_tswIn (tgt := 719) hZ (18) dL_law_33 e (by omega) (by omega) (by omega) rfl rfl ?_
      exact lc_judge hZ hS h h0 h3 (nx h3)
    · refine f_tswIn (tgt := 742) hZ (19) dL_law_33 e (by omega) (by omega) (by omega) rfl rfl ?_
      exact lc_drawn hZ hS h h0 h3 (nx h3)
    · refine f_tswIn (tgt := 765) hZ (20) dL_law_33 e (by omega) (by omega) (by omega) rfl rfl ?_
      exact lc_chance hZ hS h h0 h3 (nx h3)
    · refine f_tswIn (tgt := 819) hZ (21) dL_law_33 e (by omega) (by omega) (by omega) rfl rfl ?_
      exact lc_image hZ hS h h0 h3 (nx h3)
    · refine f_tswIn (tgt := 832) hZ (22) dL_law_33 e (by omega) (by omega) (by omega) rfl rfl ?_
      exact lc_back hZ hS h h0 h3 (nx h3)
    · refine f_tswIn (tgt := 845) hZ (23) dL_law_33 e (by omega) (by omega) (by omega) rfl rfl ?_
      exact lc_count hZ hS h h0 h3 (nx h3)
    · refine f_tswIn (tgt := 868) hZ (24) dL_law_33 e (by omega) (by omega) (by omega) rfl rfl ?_
      exact lc_sheet hZ hS h h0 h3 (nx h3)
    · refine f_tswIn (tgt := 911) hZ (25) dL_law_33 e (by omega) (by omega) (by omega) rfl rfl ?_
      exact lc_cell hZ hS h h0 h3 (nx h3)
    · refine f_tswIn (tgt := 954) hZ (26) dL_law_33 e (by omega) (by omega) (by omega) rfl rfl ?_
      exact lc_copy hZ hS h h0 h3 (nx h3)
    · refine f_tswIn (tgt := 1017) hZ (27) dL_law_33 e (by omega) (by omega) (by omega) rfl rfl ?_
      exact lc_wicks hZ hS h h0 h3 (nx h3)
    · refine f_tswIn (tgt := 1070) hZ (28) dL_law_33 e (by omega) (by omega) (by omega) rfl rfl ?_
      exact lc_taken hZ hS h h0 h3 (nx h3)
end Law
