theorem lc_0 {p : Program} {l : Launch} {e : Env} {s : State} {m : MethodId} {below : List Frame} {meth : Method} {c : Code} {b0 L i : Nat} {xs : Nat → Int32} {D : va_G} {cA : Nat → ClassId} {H : Heap} {locs : List Loc} {ls : Array Slot} {μ ν : z_S} (C : l_C p s m meth c b0 L xs D cA) (hi : i + 6 ≤ L) (hL : L ≤ 3072) (hl : lv_has ls 4 (l_lv b0 s.heap.size i)) (hI : z_INV μ ν) (hW : z_Wd s.heap.size D cA (z_mm true μ ν) H) (hS0 : va_S (z_A s.heap.size) s.heap H locs)
    (next : ∀ (μ' ν' : z_S) (H' : Heap) (locs' : List Loc), z_INV μ' ν' → z_Wd s.heap.size D cA (z_mm true μ' ν') H' → va_S (z_A s.heap.size) s.heap H' locs' → l_W p l e s m below meth c b0 H' locs' 1056 ls []) : l_W p l e s m below meth c b0 H locs 188 ls [] := by
  obtain ⟨A, ok, hc, hm⟩ := hI
  obtain ⟨r, μ1, ν1, e1, e2, hI1⟩ := op_feed ok hc hm 30 (Nat.le_refl _) (xs (i + 1)) (xs (i + 2)) (xs (i + 3)) (xs (i + 4)) (xs (i + 5))
  have hx := C.1.1
  have hb := C.1.2.1
  refine lv_aload_n (pc := 188) hx hb d_law_188 rfl (lv_at hl 1 rfl) ?_
  refine l_arg (pc := 189) (k := 1) C hS0 hl hi hL (by decide) (by decide) d_law_189 d_law_190 d_law_191 d_law_192 d_law_193 ?_
  refine l_arg (pc := 194) (k := 2) C hS0 hl hi hL (by decide) (by decide) d_law_194 d_law_195 d_law_196 d_law_197 d_law_198 ?_
  refine l_arg (pc := 199) (k := 3) C hS0 hl hi hL (by decide) (by decide) d_law_199 d_law_200 d_law_201 d_law_202 d_law_203 ?_
  refine l_arg (pc := 204) (k := 4) C hS0 hl hi hL (by decide) (by decide) d_law_204 d_law_205 d_law_206 d_law_207 d_law_208 ?_
  refine l_arg (pc := 209) (k := 5) C hS0 hl hi hL (by decide) (by decide) d_law_209 d_law_210 d_law_211 d_law_212 d_law_213 ?_
  refine l_callI (pc := 214) (o := 0) (x := r) (as := [.int (xs (i + 1)), .int (xs (i + 2)), .int (xs (i + 3)), .int (xs (i + 4)), .int (xs (i + 5))]) (st := []) C hW hS0 hl d_law_214 lkl_13 (t_X11_feed 30 (xs (i + 1)) (xs (i + 2)) (xs (i + 3)) (xs (i + 4)) (xs (i + 5)) μ r μ1 e1 ν) rfl (show 0 < 334 by decide) (by decide) rfl (by decide) rfl (fun H1 locs1 hW1 hS1 => ?_)
  refine lv_aload_n (pc := 217) hx hb d_law_217 rfl (lv_at hl 2 rfl) ?_
  refine l_arg (pc := 218) (k := 1) C hS1 hl hi hL (by decide) (by decide) d_law_218 d_law_219 d_law_220 d_law_221 d_law_222 ?_
  refine l_arg (pc := 223) (k := 2) C hS1 hl hi hL (by decide) (by decide) d_law_223 d_law_224 d_law_225 d_law_226 d_law_227 ?_
  refine l_arg (pc := 228) (k := 3) C hS1 hl hi hL (by decide) (by decide) d_law_228 d_law_229 d_law_230 d_law_231 d_law_232 ?_
  refine l_arg (pc := 233) (k := 4) C hS1 hl hi hL (by decide) (by decide) d_law_233 d_law_234 d_law_235 d_law_236 d_law_237 ?_
  refine l_arg (pc := 238) (k := 5) C hS1 hl hi hL (by decide) (by decide) d_law_238 d_law_239 d_law_240 d_law_241 d_law_242 ?_
  refine l_callI (pc := 243) (o := 253) (x := r) (as := [.int (xs (i + 1)), .int (xs (i + 2)), .int (xs (i + 3)), .int (xs (i + 4)), .int (xs (i + 5))]) (st := [.int r]) C (l_swap hW1) hS1 hl d_law_243 lkl_17 (t_X12_feed 30 (xs (i + 1)) (xs (i + 2)) (xs (i + 3)) (xs (i + 4)) (xs (i + 5)) ν r ν1 e2 μ1) rfl (show 253 < 334 by decide) (by decide) rfl (by show _ ≤ _; first | decide | exact Nat.le_of_ble_eq_true rfl) rfl (fun H2 locs2 hW2 hS2 => ?_)
  refine lv_icmp_eq (pc := 246) (x := r) (y := r) (tgt := 1056) hx hb d_law_246 (by decide) (fun _ => ?_) (fun h => absurd rfl h)
  exact next μ1 ν1 H2 locs2 hI1 (l_swap2 hW2) hS2
theorem lc_1 {p : Program} {l : Launch} {e : Env} {s : State} {m : MethodId} {below : List Frame} {meth : Method} {c : Code} {b0 L i : Nat} {xs : Nat → Int32} {D : va_G} {cA : Nat → ClassId} {H : Heap} {locs : List Loc} {ls : Array Slot} {μ ν : z_S} (C : l_C p s m meth c b0 L xs D cA) (hi : i + 6 ≤ L) (hL : L ≤ 3072) (hl : lv_has ls 4 (l_lv b0 s.heap.size i)) (hI : z_INV μ ν) (hW : z_Wd s.heap.size D cA (z_mm true μ ν) H) (hS0 : va_S (z_A s.heap.size) s.heap H locs)
    (next : ∀ (μ' ν' : z_S) (H' : Heap) (locs' : List Loc), z_INV μ' ν' → z_Wd s.heap.size D cA (z_mm true μ' ν') H' → va_S (z_A s.heap.size) s.heap H' locs' → l_W p l e s m below meth c b0 H' locs' 1056 ls []) : l_W p l e s m below meth c b0 H locs 251 ls [] := by
  obtain ⟨A, ok, hc, hm⟩ := hI
  obtain ⟨r, μ1, ν1, e1, e2, hI1⟩ := op_end ok hc hm 1700 (xs (i + 1))
  have hx := C.1.1
  have hb := C.1.2.1
  refine lv_aload_n (pc := 251) hx hb d_law_251 rfl (lv_at hl 1 rfl) ?_
  refine l_arg (pc := 252) (k := 1) C hS0 hl hi hL (by decide) (by decide) d_law_252 d_law_253 d_law_254 d_law_255 d_law_256 ?_
  refine l_callI (pc := 257) (o := 0) (x := r) (as := [.int (xs (i + 1))]) (st := []) C hW hS0 hl d_law_257 lkl_18 (t_X11_end 1700 (xs (i + 1)) μ r μ1 e1 ν) rfl (show 0 < 334 by decide) (by decide) rfl (by decide) rfl (fun H1 locs1 hW1 hS1 => ?_)
  refine lv_aload_n (pc := 260) hx hb d_law_260 rfl (lv_at hl 2 rfl) ?_
  refine l_arg (pc := 261) (k := 1) C hS1 hl hi hL (by decide) (by decide) d_law_261 d_law_262 d_law_263 d_law_264 d_law_265 ?_
  refine l_callI (pc := 266) (o := 253) (x := r) (as := [.int (xs (i + 1))]) (st := [.int r]) C (l_swap hW1) hS1 hl d_law_266 lkl_22 (t_X12_end 1700 (xs (i + 1)) ν r ν1 e2 μ1) rfl (show 253 < 334 by decide) (by decide) rfl (by show _ ≤ _; first | decide | exact Nat.le_of_ble_eq_true rfl) rfl (fun H2 locs2 hW2 hS2 => ?_)
  refine lv_icmp_eq (pc := 269) (x := r) (y := r) (tgt := 1056) hx hb d_law_269 (by decide) (fun _ => ?_) (fun h => absurd rfl h)
  exact next μ1 ν1 H2 locs2 hI1 (l_swap2 hW2) hS2
theorem lc_2 {p : Program} {l : Launch} {e : Env} {s : State} {m : MethodId} {below : List Frame} {meth : Method} {c : Code} {b0 L i : Nat} {xs : Nat → Int32} {D : va_G} {cA : Nat → ClassId} {H : Heap} {locs : List Loc} {ls : Array Slot} {μ ν : z_S} (C : l_C p s m meth c b0 L xs D cA) (hi : i + 6 ≤ L) (hL : L ≤ 3072) (hl : lv_has ls 4 (l_lv b0 s.heap.size i)) (hI : z_INV μ ν) (hW : z_Wd s.heap.size D cA (z_mm true μ ν) H) (hS0 : va_S (z_A s.heap.size) s.heap H locs)
    (next : ∀ (μ' ν' : z_S) (H' : Heap) (locs' : List Loc), z_INV μ' ν' → z_Wd s.heap.size D cA (z_mm true μ' ν') H' → va_S (z_A s.heap.size) s.heap H' locs' → l_W p l e s m below meth c b0 H' locs' 1056 ls []) : l_W p l e s m below meth c b0 H locs 274 ls [] := by
  obtain ⟨A, ok, hc, hm⟩ := hI
  obtain ⟨r, μ1, ν1, e1, e2, hI1⟩ := op_heap ok hc hm 1700 (Nat.le_refl _)
  have hx := C.1.1
  have hb := C.1.2.1
  refine lv_aload_n (pc := 274) hx hb d_law_274 rfl (lv_at hl 1 rfl) ?_
  refine l_callI (pc := 275) (o := 0) (x := r) (as := []) (st := []) C hW hS0 hl d_law_275 lkl_23 (t_X11_heap 1700  μ r μ1 e1 ν) rfl (show 0 < 334 by decide) (by decide) rfl (by decide) rfl (fun H1 locs1 hW1 hS1 => ?_)
  refine lv_aload_n (pc := 278) hx hb d_law_278 rfl (lv_at hl 2 rfl) ?_
  refine l_callI (pc := 279) (o := 253) (x := r) (as := []) (st := [.int r]) C (l_swap hW1) hS1 hl d_law_279 lkl_27 (t_X12_heap 1700  ν r ν1 e2 μ1) rfl (show 253 < 334 by decide) (by decide) rfl (by show _ ≤ _; first | decide | exact Nat.le_of_ble_eq_true rfl) rfl (fun H2 locs2 hW2 hS2 => ?_)
  refine lv_icmp_eq (pc := 282) (x := r) (y := r) (tgt := 1056) hx hb d_law_282 (by decide) (fun _ => ?_) (fun h => absurd rfl h)
  exact next μ1 ν1 H2 locs2 hI1 (l_swap2 hW2) hS2
theorem lc_3 {p : Program} {l : Launch} {e : Env} {s : State} {m : MethodId} {below : List Frame} {meth : Method} {c : Code} {b0 L i : Nat} {xs : Nat → Int32} {D : va_G} {cA : Nat → ClassId} {H : Heap} {locs : List Loc} {ls : Array Slot} {μ ν : z_S} (C : l_C p s m meth c b0 L xs D cA) (hi : i + 6 ≤ L) (hL : L ≤ 3072) (hl : lv_has ls 4 (l_lv b0 s.heap.size i)) (hI : z_INV μ ν) (hW : z_Wd s.heap.size D cA (z_mm true μ ν) H) (hS0 : va_S (z_A s.heap.size) s.heap H locs)
    (next : ∀ (μ' ν' : z_S) (H' : Heap) (locs' : List Loc), z_INV μ' ν' → z_Wd s.heap.size D cA (z_mm true μ' ν') H' → va_S (z_A s.heap.size) s.heap H' locs' → l_W p l e s m below meth c b0 H' locs' 1056 ls []) : l_W p l e s m below meth c b0 H locs 287 ls [] := by
  obtain ⟨A, ok, hc, hm⟩ := hI
  obtain ⟨r, μ1, ν1, e1, e2, hI1⟩ := op_fault ok hc hm 1700 (xs (i + 1))
  have hx := C.1.1
  have hb := C.1.2.1
  refine lv_aload_n (pc := 287) hx hb d_law_287 rfl (lv_at hl 1 rfl) ?_
  refine l_arg (pc := 288) (k := 1) C hS0 hl hi hL (by decide) (by decide) d_law_288 d_law_289 d_law_290 d_law_291 d_law_292 ?_
  refine l_callI (pc := 293) (o := 0) (x := r) (as := [.int (xs (i + 1))]) (st := []) C hW hS0 hl d_law_293 lkl_28 (t_X11_fault 1700 (xs (i + 1)) μ r μ1 e1 ν) rfl (show 0 < 334 by decide) (by decide) rfl (by decide) rfl (fun H1 locs1 hW1 hS1 => ?_)
  refine lv_aload_n (pc := 296) hx hb d_law_296 rfl (lv_at hl 2 rfl) ?_
  refine l_arg (pc := 297) (k := 1) C hS1 hl hi hL (by decide) (by decide) d_law_297 d_law_298 d_law_299 d_law_300 d_law_301 ?_
  refine l_callI (pc := 302) (o := 253) (x := r) (as := [.int (xs (i + 1))]) (st := [.int r]) C (l_swap hW1) hS1 hl d_law_302 lkl_32 (t_X12_fault 1700 (xs (i + 1)) ν r ν1 e2 μ1) rfl (show 253 < 334 by decide) (by decide) rfl (by show _ ≤ _; first | decide | exact Nat.le_of_ble_eq_true rfl) rfl (fun H2 locs2 hW2 hS2 => ?_)
  refine lv_icmp_eq (pc := 305) (x := r) (y := r) (tgt := 1056) hx hb d_law_305 (by decide) (fun _ => ?_) (fun h => absurd rfl h)
  exact next μ1 ν1 H2 locs2 hI1 (l_swap2 hW2) hS2
theorem lc_4 {p : Program} {l : Launch} {e : Env} {s : State} {m : MethodId} {below : List Frame} {meth : Method} {c : Code} {b0 L i : Nat} {xs : Nat → Int32} {D : va_G} {cA : Nat → ClassId} {H : Heap} {locs : List Loc} {ls : Array Slot} {μ ν : z_S} (C : l_C p s m meth c b0 L xs D cA) (hi : i + 6 ≤ L) (hL : L ≤ 3072) (hl : lv_has ls 4 (l_lv b0 s.heap.size i)) (hI : z_INV μ ν) (hW : z_Wd s.heap.size D cA (z_mm true μ ν) H) (hS0 : va_S (z_A s.heap.size) s.heap H locs)
    (next : ∀ (μ' ν' : z_S) (H' : Heap) (locs' : List Loc), z_INV μ' ν' → z_Wd s.heap.size D cA (z_mm true μ' ν') H' → va_S (z_A s.heap.size) s.heap H' locs' → l_W p l e s m below meth c b0 H' locs' 1056 ls []) : l_W p l e s m below meth c b0 H locs 310 ls [] := by
  obtain ⟨A, ok, hc, hm⟩ := hI
  obtain ⟨r, μ1, ν1, e1, e2, hI1⟩ := op_has ok hc hm 9 (Nat.le_refl _) (xs (i + 1))
  have hx := C.1.1
  have hb := C.1.2.1
  refine lv_aload_n (pc := 310) hx hb d_law_310 rfl (lv_at hl 1 rfl) ?_
  refine l_arg (pc := 311) (k := 1) C hS0 hl hi hL (by decide) (by decide) d_law_311 d_law_312 d_law_313 d_law_314 d_law_315 ?_
  refine l_callI (pc := 316) (o := 0) (x := r) (as := [.int (xs (i + 1))]) (st := []) C hW hS0 hl d_law_316 lkl_33 (t_X11_has 9 (xs (i + 1)) μ r μ1 e1 ν) rfl (show 0 < 334 by decide) (by decide) rfl (by decide) rfl (fun H1 locs1 hW1 hS1 => ?_)
  refine lv_aload_n (pc := 319) hx hb d_law_319 rfl (lv_at hl 2 rfl) ?_
  refine l_arg (pc := 320) (k := 1) C hS1 hl hi hL (by decide) (by decide) d_law_320 d_law_321 d_law_322 d_law_323 d_law_324 ?_
  refine l_callI (pc := 325) (o := 253) (x := r) (as := [.int (xs (i + 1))]) (st := [.int r]) C (l_swap hW1) hS1 hl d_law_325 lkl_36 (t_X12_has 9 (xs (i + 1)) ν r ν1 e2 μ1) rfl (show 253 < 334 by decide) (by decide) rfl (by show _ ≤ _; first | decide | exact Nat.le_of_ble_eq_true rfl) rfl (fun H2 locs2 hW2 hS2 => ?_)
  refine lv_icmp_eq (pc := 328) (x := r) (y := r) (tgt := 1056) hx hb d_law_328 (by decide) (fun _ => ?_) (fun h => absurd rfl h)
  exact next μ1 ν1 H2 locs2 hI1 (l_swap2 hW2) hS2
theorem lc_5 {p : Program} {l : Launch} {e : Env} {s : State} {m : MethodId} {below : List Frame} {meth : Method} {c : Code} {b0 L i : Nat} {xs : Nat → Int32} {D : va_G} {cA : Nat → ClassId} {H : Heap} {locs : List Loc} {ls : Array Slot} {μ ν : z_S} (C : l_C p s m meth c b0 L xs D cA) (hi : i + 6 ≤ L) (hL : L ≤ 3072) (hl : lv_has ls 4 (l_lv b0 s.heap.size i)) (hI : z_INV μ ν) (hW : z_Wd s.heap.size D cA (z_mm true μ ν) H) (hS0 : va_S (z_A s.heap.size) s.heap H locs)
    (next : ∀ (μ' ν' : z_S) (H' : Heap) (locs' : List Loc), z_INV μ' ν' → z_Wd s.heap.size D cA (z_mm true μ' ν') H' → va_S (z_A s.heap.size) s.heap H' locs' → l_W p l e s m below meth c b0 H' locs' 1056 ls []) : l_W p l e s m below meth c b0 H locs 333 ls [] := by
  obtain ⟨A, ok, hc, hm⟩ := hI
  obtain ⟨r, μ1, ν1, e1, e2, hI1⟩ := op_letter ok hc hm 10 (Nat.le_refl _) (xs (i + 1)) (xs (i + 2)) (xs (i + 3))
  have hx := C.1.1
  have hb := C.1.2.1
  refine lv_aload_n (pc := 333) hx hb d_law_333 rfl (lv_at hl 1 rfl) ?_
  refine l_arg (pc := 334) (k := 1) C hS0 hl hi hL (by decide) (by decide) d_law_334 d_law_335 d_law_336 d_law_337 d_law_338 ?_
  refine l_arg (pc := 339) (k := 2) C hS0 hl hi hL (by decide) (by decide) d_law_339 d_law_340 d_law_341 d_law_342 d_law_343 ?_
  refine l_arg (pc := 344) (k := 3) C hS0 hl hi hL (by decide) (by decide) d_law_344 d_law_345 d_law_346 d_law_347 d_law_348 ?_
  refine l_callI (pc := 349) (o := 0) (x := r) (as := [.int (xs (i + 1)), .int (xs (i + 2)), .int (xs (i + 3))]) (st := []) C hW hS0 hl d_law_349 lkl_37 (t_X11_letter 10 (xs (i + 1)) (xs (i + 2)) (xs (i + 3)) μ r μ1 e1 ν) rfl (show 0 < 334 by decide) (by decide) rfl (by decide) rfl (fun H1 locs1 hW1 hS1 => ?_)
  refine lv_aload_n (pc := 352) hx hb d_law_352 rfl (lv_at hl 2 rfl) ?_
  refine l_arg (pc := 353) (k := 1) C hS1 hl hi hL (by decide) (by decide) d_law_353 d_law_354 d_law_355 d_law_356 d_law_357 ?_
  refine l_arg (pc := 358) (k := 2) C hS1 hl hi hL (by decide) (by decide) d_law_358 d_law_359 d_law_360 d_law_361 d_law_362 ?_
  refine l_arg (pc := 363) (k := 3) C hS1 hl hi hL (by decide) (by decide) d_law_363 d_law_364 d_law_365 d_law_366 d_law_367 ?_
  refine l_callI (pc := 368) (o := 253) (x := r) (as := [.int (xs (i + 1)), .int (xs (i + 2)), .int (xs (i + 3))]) (st := [.int r]) C (l_swap hW1) hS1 hl d_law_368 lkl_41 (t_X12_letter 10 (xs (i + 1)) (xs (i + 2)) (xs (i + 3)) ν r ν1 e2 μ1) rfl (show 253 < 334 by decide) (by decide) rfl (by show _ ≤ _; first | decide | exact Nat.le_of_ble_eq_true rfl) rfl (fun H2 locs2 hW2 hS2 => ?_)
  refine lv_icmp_eq (pc := 371) (x := r) (y := r) (tgt := 1056) hx hb d_law_371 (by decide) (fun _ => ?_) (fun h => absurd rfl h)
  exact next μ1 ν1 H2 locs2 hI1 (l_swap2 hW2) hS2
theorem lc_6 {p : Program} {l : Launch} {e : Env} {s : State} {m : MethodId} {below : List Frame} {meth : Method} {c : Code} {b0 L i : Nat} {xs : Nat → Int32} {D : va_G} {cA : Nat → ClassId} {H : Heap} {locs : List Loc} {ls : Array Slot} {μ ν : z_S} (C : l_C p s m meth c b0 L xs D cA) (hi : i + 6 ≤ L) (hL : L ≤ 3072) (hl : lv_has ls 4 (l_lv b0 s.heap.size i)) (hI : z_INV μ ν) (hW : z_Wd s.heap.size D cA (z_mm true μ ν) H) (hS0 : va_S (z_A s.heap.size) s.heap H locs)
    (next : ∀ (μ' ν' : z_S) (H' : Heap) (locs' : List Loc), z_INV μ' ν' → z_Wd s.heap.size D cA (z_mm true μ' ν') H' → va_S (z_A s.heap.size) s.heap H' locs' → l_W p l e s m below meth c b0 H' locs' 1056 ls []) : l_W p l e s m below meth c b0 H locs 376 ls [] := by
  obtain ⟨A, ok, hc, hm⟩ := hI
  obtain ⟨r, μ1, ν1, e1, e2, hI1⟩ := op_mail ok hc hm 5 (Nat.le_refl _) (xs (i + 1)) (xs (i + 2))
  have hx := C.1.1
  have hb := C.1.2.1
  refine lv_aload_n (pc := 376) hx hb d_law_376 rfl (lv_at hl 1 rfl) ?_
  refine l_arg (pc := 377) (k := 1) C hS0 hl hi hL (by decide) (by decide) d_law_377 d_law_378 d_law_379 d_law_380 d_law_381 ?_
  refine l_arg (pc := 382) (k := 2) C hS0 hl hi hL (by decide) (by decide) d_law_382 d_law_383 d_law_384 d_law_385 d_law_386 ?_
  refine l_callI (pc := 387) (o := 0) (x := r) (as := [.int (xs (i + 1)), .int (xs (i + 2))]) (st := []) C hW hS0 hl d_law_387 lkl_42 (t_X11_mail 5 (xs (i + 1)) (xs (i + 2)) μ r μ1 e1 ν) rfl (show 0 < 334 by decide) (by decide) rfl (by decide) rfl (fun H1 locs1 hW1 hS1 => ?_)
  refine lv_aload_n (pc := 390) hx hb d_law_390 rfl (lv_at hl 2 rfl) ?_
  refine l_arg (pc := 391) (k := 1) C hS1 hl hi hL (by decide) (by decide) d_law_391 d_law_392 d_law_393 d_law_394 d_law_395 ?_
  refine l_arg (pc := 396) (k := 2) C hS1 hl hi hL (by decide) (by decide) d_law_396 d_law_397 d_law_398 d_law_399 d_law_400 ?_
  refine l_callI (pc := 401) (o := 253) (x := r) (as := [.int (xs (i + 1)), .int (xs (i + 2))]) (st := [.int r]) C (l_swap hW1) hS1 hl d_law_401 lkl_46 (t_X12_mail 5 (xs (i + 1)) (xs (i + 2)) ν r ν1 e2 μ1) rfl (show 253 < 334 by decide) (by decide) rfl (by show _ ≤ _; first | decide | exact Nat.le_of_ble_eq_true rfl) rfl (fun H2 locs2 hW2 hS2 => ?_)
  refine lv_icmp_eq (pc := 404) (x := r) (y := r) (tgt := 1056) hx hb d_law_404 (by decide) (fun _ => ?_) (fun h => absurd rfl h)
  exact next μ1 ν1 H2 locs2 hI1 (l_swap2 hW2) hS2
theorem lc_7 {p : Program} {l : Launch} {e : Env} {s : State} {m : MethodId} {below : List Frame} {meth : Method} {c : Code} {b0 L i : Nat} {xs : Nat → Int32} {D : va_G} {cA : Nat → ClassId} {H : Heap} {locs : List Loc} {ls : Array Slot} {μ ν : z_S} (C : l_C p s m meth c b0 L xs D cA) (hi : i + 6 ≤ L) (hL : L ≤ 3072) (hl : lv_has ls 4 (l_lv b0 s.heap.size i)) (hI : z_INV μ ν) (hW : z_Wd s.heap.size D cA (z_mm true μ ν) H) (hS0 : va_S (z_A s.heap.size) s.heap H locs)
    (next : ∀ (μ' ν' : z_S) (H' : Heap) (locs' : List Loc), z_INV μ' ν' → z_Wd s.heap.size D cA (z_mm true μ' ν') H' → va_S (z_A s.heap.size) s.heap H' locs' → l_W p l e s m below meth c b0 H' locs' 1056 ls []) : l_W p l e s m below meth c b0 H locs 409 ls [] := by
  obtain ⟨A, ok, hc, hm⟩ := hI
  obtain ⟨r, μ1, ν1, e1, e2, hI1⟩ := op_gift ok hc hm 1700 (xs (i + 1)) (xs (i + 2))
  have hx := C.1.1
  have hb := C.1.2.1
  refine lv_aload_n (pc := 409) hx hb d_law_409 rfl (lv_at hl 1 rfl) ?_
  refine l_arg (pc := 410) (k := 1) C hS0 hl hi hL (by decide) (by decide) d_law_410 d_law_411 d_law_412 d_law_413 d_law_414 ?_
  refine l_arg (pc := 415) (k := 2) C hS0 hl hi hL (by decide) (by decide) d_law_415 d_law_416 d_law_417 d_law_418 d_law_419 ?_
  refine l_callI (pc := 420) (o := 0) (x := r) (as := [.int (xs (i + 1)), .int (xs (i + 2))]) (st := []) C hW hS0 hl d_law_420 lkl_47 (t_X11_gift 1700 (xs (i + 1)) (xs (i + 2)) μ r μ1 e1 ν) rfl (show 0 < 334 by decide) (by decide) rfl (by decide) rfl (fun H1 locs1 hW1 hS1 => ?_)
  refine lv_aload_n (pc := 423) hx hb d_law_423 rfl (lv_at hl 2 rfl) ?_
  refine l_arg (pc := 424) (k := 1) C hS1 hl hi hL (by decide) (by decide) d_law_424 d_law_425 d_law_426 d_law_427 d_law_428 ?_
  refine l_arg (pc := 429) (k := 2) C hS1 hl hi hL (by decide) (by decide) d_law_429 d_law_430 d_law_431 d_law_432 d_law_433 ?_
  refine l_callI (pc := 434) (o := 253) (x := r) (as := [.int (xs (i + 1)), .int (xs (i + 2))]) (st := [.int r]) C (l_swap hW1) hS1 hl d_law_434 lkl_50 (t_X12_gift 1700 (xs (i + 1)) (xs (i + 2)) ν r ν1 e2 μ1) rfl (show 253 < 334 by decide) (by decide) rfl (by show _ ≤ _; first | decide | exact Nat.le_of_ble_eq_true rfl) rfl (fun H2 locs2 hW2 hS2 => ?_)
  refine lv_icmp_eq (pc := 437) (x := r) (y := r) (tgt := 1056) hx hb d_law_437 (by decide) (fun _ => ?_) (fun h => absurd rfl h)
  exact next μ1 ν1 H2 locs2 hI1 (l_swap2 hW2) hS2
theorem lc_8 {p : Program} {l : Launch} {e : Env} {s : State} {m : MethodId} {below : List Frame} {meth : Method} {c : Code} {b0 L i : Nat} {xs : Nat → Int32} {D : va_G} {cA : Nat → ClassId} {H : Heap} {locs : List Loc} {ls : Array Slot} {μ ν : z_S} (C : l_C p s m meth c b0 L xs D cA) (hi : i + 6 ≤ L) (hL : L ≤ 3072) (hl : lv_has ls 4 (l_lv b0 s.heap.size i)) (hI : z_INV μ ν) (hW : z_Wd s.heap.size D cA (z_mm true μ ν) H) (hS0 : va_S (z_A s.heap.size) s.heap H locs)
    (next : ∀ (μ' ν' : z_S) (H' : Heap) (locs' : List Loc), z_INV μ' ν' → z_Wd s.heap.size D cA (z_mm true μ' ν') H' → va_S (z_A s.heap.size) s.heap H' locs' → l_W p l e s m below meth c b0 H' locs' 1056 ls []) : l_W p l e s m below meth c b0 H locs 442 ls [] := by
  obtain ⟨A, ok, hc, hm⟩ := hI
  obtain ⟨r, μ1, ν1, e1, e2, hI1⟩ := op_helper ok hc hm 9 (Nat.le_refl _) (xs (i + 1)) (xs (i + 2))
  have hx := C.1.1
  have hb := C.1.2.1
  refine lv_aload_n (pc := 442) hx hb d_law_442 rfl (lv_at hl 1 rfl) ?_
  refine l_arg (pc := 443) (k := 1) C hS0 hl hi hL (by decide) (by decide) d_law_443 d_law_444 d_law_445 d_law_446 d_law_447 ?_
  refine l_arg (pc := 448) (k := 2) C hS0 hl hi hL (by decide) (by decide) d_law_448 d_law_449 d_law_450 d_law_451 d_law_452 ?_
  refine l_callI (pc := 453) (o := 0) (x := r) (as := [.int (xs (i + 1)), .int (xs (i + 2))]) (st := []) C hW hS0 hl d_law_453 lkl_51 (t_X11_helper 9 (xs (i + 1)) (xs (i + 2)) μ r μ1 e1 ν) rfl (show 0 < 334 by decide) (by decide) rfl (by decide) rfl (fun H1 locs1 hW1 hS1 => ?_)
  refine lv_aload_n (pc := 456) hx hb d_law_456 rfl (lv_at hl 2 rfl) ?_
  refine l_arg (pc := 457) (k := 1) C hS1 hl hi hL (by decide) (by decide) d_law_457 d_law_458 d_law_459 d_law_460 d_law_461 ?_
  refine l_arg (pc := 462) (k := 2) C hS1 hl hi hL (by decide) (by decide) d_law_462 d_law_463 d_law_464 d_law_465 d_law_466 ?_
  refine l_callI (pc := 467) (o := 253) (x := r) (as := [.int (xs (i + 1)), .int (xs (i + 2))]) (st := [.int r]) C (l_swap hW1) hS1 hl d_law_467 lkl_54 (t_X12_helper 9 (xs (i + 1)) (xs (i + 2)) ν r ν1 e2 μ1) rfl (show 253 < 334 by decide) (by decide) rfl (by show _ ≤ _; first | decide | exact Nat.le_of_ble_eq_true rfl) rfl (fun H2 locs2 hW2 hS2 => ?_)
  refine lv_icmp_eq (pc := 470) (x := r) (y := r) (tgt := 1056) hx hb d_law_470 (by decide) (fun _ => ?_) (fun h => absurd rfl h)
  exact next μ1 ν1 H2 locs2 hI1 (l_swap2 hW2) hS2
theorem lc_9 {p : Program} {l : Launch} {e : Env} {s : State} {m : MethodId} {below : List Frame} {meth : Method} {c : Code} {b0 L i : Nat} {xs : Nat → Int32} {D : va_G} {cA : Nat → ClassId} {H : Heap} {locs : List Loc} {ls : Array Slot} {μ ν : z_S} (C : l_C p s m meth c b0 L xs D cA) (hi : i + 6 ≤ L) (hL : L ≤ 3072) (hl : lv_has ls 4 (l_lv b0 s.heap.size i)) (hI : z_INV μ ν) (hW : z_Wd s.heap.size D cA (z_mm true μ ν) H) (hS0 : va_S (z_A s.heap.size) s.heap H locs)
    (next : ∀ (μ' ν' : z_S) (H' : Heap) (locs' : List Loc), z_INV μ' ν' → z_Wd s.heap.size D cA (z_mm true μ' ν') H' → va_S (z_A s.heap.size) s.heap H' locs' → l_W p l e s m below meth c b0 H' locs' 1056 ls []) : l_W p l e s m below meth c b0 H locs 475 ls [] := by
  obtain ⟨A, ok, hc, hm⟩ := hI
  obtain ⟨r, μ1, ν1, e1, e2, hI1⟩ := op_takes ok hc hm 1700 (Nat.le_refl _) (xs (i + 1)) (xs (i + 2))
  have hx := C.1.1
  have hb := C.1.2.1
  refine lv_aload_n (pc := 475) hx hb d_law_475 rfl (lv_at hl 1 rfl) ?_
  refine l_arg (pc := 476) (k := 1) C hS0 hl hi hL (by decide) (by decide) d_law_476 d_law_477 d_law_478 d_law_479 d_law_480 ?_
  refine l_arg (pc := 481) (k := 2) C hS0 hl hi hL (by decide) (by decide) d_law_481 d_law_482 d_law_483 d_law_484 d_law_485 ?_
  refine l_callI (pc := 486) (o := 0) (x := r) (as := [.int (xs (i + 1)), .int (xs (i + 2))]) (st := []) C hW hS0 hl d_law_486 lkl_55 (t_X11_takes 1700 (xs (i + 1)) (xs (i + 2)) μ r μ1 e1 ν) rfl (show 0 < 334 by decide) (by decide) rfl (by decide) rfl (fun H1 locs1 hW1 hS1 => ?_)
  refine lv_aload_n (pc := 489) hx hb d_law_489 rfl (lv_at hl 2 rfl) ?_
  refine l_arg (pc := 490) (k := 1) C hS1 hl hi hL (by decide) (by decide) d_law_490 d_law_491 d_law_492 d_law_493 d_law_494 ?_
  refine l_arg (pc := 495) (k := 2) C hS1 hl hi hL (by decide) (by decide) d_law_495 d_law_496 d_law_497 d_law_498 d_law_499 ?_
  refine l_callI (pc := 500) (o := 253) (x := r) (as := [.int (xs (i + 1)), .int (xs (i + 2))]) (st := [.int r]) C (l_swap hW1) hS1 hl d_law_500 lkl_58 (t_X12_takes 1700 (xs (i + 1)) (xs (i + 2)) ν r ν1 e2 μ1) rfl (show 253 < 334 by decide) (by decide) rfl (by show _ ≤ _; first | decide | exact Nat.le_of_ble_eq_true rfl) rfl (fun H2 locs2 hW2 hS2 => ?_)
  refine lv_icmp_eq (pc := 503) (x := r) (y := r) (tgt := 1056) hx hb d_law_503 (by decide) (fun _ => ?_) (fun h => absurd rfl h)
  exact next μ1 ν1 H2 locs2 hI1 (l_swap2 hW2) hS2
theorem lc_10 {p : Program} {l : Launch} {e : Env} {s : State} {m : MethodId} {below : List Frame} {meth : Method} {c : Code} {b0 L i : Nat} {xs : Nat → Int32} {D : va_G} {cA : Nat → ClassId} {H : Heap} {locs : List Loc} {ls : Array Slot} {μ ν : z_S} (C : l_C p s m meth c b0 L xs D cA) (hi : i + 6 ≤ L) (hL : L ≤ 3072) (hl : lv_has ls 4 (l_lv b0 s.heap.size i)) (hI : z_INV μ ν) (hW : z_Wd s.heap.size D cA (z_mm true μ ν) H) (hS0 : va_S (z_A s.heap.size) s.heap H locs)
    (next : ∀ (μ' ν' : z_S) (H' : Heap) (locs' : List Loc), z_INV μ' ν' → z_Wd s.heap.size D cA (z_mm true μ' ν') H' → va_S (z_A s.heap.size) s.heap H' locs' → l_W p l e s m below meth c b0 H' locs' 1056 ls []) : l_W p l e s m below meth c b0 H locs 508 ls [] := by
  obtain ⟨A, ok, hc, hm⟩ := hI
  obtain ⟨r, μ1, ν1, e1, e2, hI1⟩ := op_warmth ok hc hm 1700 (Nat.le_refl _) (xs (i + 1)) (xs (i + 2))
  have hx := C.1.1
  have hb := C.1.2.1
  refine lv_aload_n (pc := 508) hx hb d_law_508 rfl (lv_at hl 1 rfl) ?_
  refine l_arg (pc := 509) (k := 1) C hS0 hl hi hL (by decide) (by decide) d_law_509 d_law_510 d_law_511 d_law_512 d_law_513 ?_
  refine l_arg (pc := 514) (k := 2) C hS0 hl hi hL (by decide) (by decide) d_law_514 d_law_515 d_law_516 d_law_517 d_law_518 ?_
  refine l_callJ (pc := 519) (o := 0) (x := r) (as := [.int (xs (i + 1)), .int (xs (i + 2))]) (st := []) C hW hS0 hl d_law_519 lkl_59 (t_X11_warmth 1700 (xs (i + 1)) (xs (i + 2)) μ r μ1 e1 ν) rfl (show 0 < 334 by decide) (by decide) rfl (by decide) rfl (fun H1 locs1 hW1 hS1 => ?_)
  refine lv_aload_n (pc := 522) hx hb d_law_522 rfl (lv_at hl 2 rfl) ?_
  refine l_arg (pc := 523) (k := 1) C hS1 hl hi hL (by decide) (by decide) d_law_523 d_law_524 d_law_525 d_law_526 d_law_527 ?_
  refine l_arg (pc := 528) (k := 2) C hS1 hl hi hL (by decide) (by decide) d_law_528 d_law_529 d_law_530 d_law_531 d_law_532 ?_
  refine l_callJ (pc := 533) (o := 253) (x := r) (as := [.int (xs (i + 1)), .int (xs (i + 2))]) (st := [.long r]) C (l_swap hW1) hS1 hl d_law_533 lkl_63 (t_X12_warmth 1700 (xs (i + 1)) (xs (i + 2)) ν r ν1 e2 μ1) rfl (show 253 < 334 by decide) (by decide) rfl (by show _ ≤ _; first | decide | exact Nat.le_of_ble_eq_true rfl) rfl (fun H2 locs2 hW2 hS2 => ?_)
  refine W.lcmp (pc := 536) hx hb d_law_536 ?_
  refine lv_if_eq (pc := 537) (tgt := 1056) hx hb d_law_537 (by decide) (fun _ => ?_) (fun h => absurd (l_cmp r) h)
  exact next μ1 ν1 H2 locs2 hI1 (l_swap2 hW2) hS2
theorem lc_11 {p : Program} {l : Launch} {e : Env} {s : State} {m : MethodId} {below : List Frame} {meth : Method} {c : Code} {b0 L i : Nat} {xs : Nat → Int32} {D : va_G} {cA : Nat → ClassId} {H : Heap} {locs : List Loc} {ls : Array Slot} {μ ν : z_S} (C : l_C p s m meth c b0 L xs D cA) (hi : i + 6 ≤ L) (hL : L ≤ 3072) (hl : lv_has ls 4 (l_lv b0 s.heap.size i)) (hI : z_INV μ ν) (hW : z_Wd s.heap.size D cA (z_mm true μ ν) H) (hS0 : va_S (z_A s.heap.size) s.heap H locs)
    (next : ∀ (μ' ν' : z_S) (H' : Heap) (locs' : List Loc), z_INV μ' ν' → z_Wd s.heap.size D cA (z_mm true μ' ν') H' → va_S (z_A s.heap.size) s.heap H' locs' → l_W p l e s m below meth c b0 H' locs' 1056 ls []) : l_W p l e s m below meth c b0 H locs 542 ls [] := by
  obtain ⟨A, ok, hc, hm⟩ := hI
  obtain ⟨r, μ1, ν1, e1, e2, hI1⟩ := op_can ok hc hm 1700 (Nat.le_refl _) (xs (i + 1)) (xs (i + 2))
  have hx := C.1.1
  have hb := C.1.2.1
  refine lv_aload_n (pc := 542) hx hb d_law_542 rfl (lv_at hl 1 rfl) ?_
  refine l_arg (pc := 543) (k := 1) C hS0 hl hi hL (by decide) (by decide) d_law_543 d_law_544 d_law_545 d_law_546 d_law_547 ?_
  refine l_arg (pc := 548) (k := 2) C hS0 hl hi hL (by decide) (by decide) d_law_548 d_law_549 d_law_550 d_law_551 d_law_552 ?_
  refine l_callI (pc := 553) (o := 0) (x := r) (as := [.int (xs (i + 1)), .int (xs (i + 2))]) (st := []) C hW hS0 hl d_law_553 lkl_64 (t_X11_can 1700 (xs (i + 1)) (xs (i + 2)) μ r μ1 e1 ν) rfl (show 0 < 334 by decide) (by decide) rfl (by decide) rfl (fun H1 locs1 hW1 hS1 => ?_)
  refine lv_aload_n (pc := 556) hx hb d_law_556 rfl (lv_at hl 2 rfl) ?_
  refine l_arg (pc := 557) (k := 1) C hS1 hl hi hL (by decide) (by decide) d_law_557 d_law_558 d_law_559 d_law_560 d_law_561 ?_
  refine l_arg (pc := 562) (k := 2) C hS1 hl hi hL (by decide) (by decide) d_law_562 d_law_563 d_law_564 d_law_565 d_law_566 ?_
  refine l_callI (pc := 567) (o := 253) (x := r) (as := [.int (xs (i + 1)), .int (xs (i + 2))]) (st := [.int r]) C (l_swap hW1) hS1 hl d_law_567 lkl_67 (t_X12_can 1700 (xs (i + 1)) (xs (i + 2)) ν r ν1 e2 μ1) rfl (show 253 < 334 by decide) (by decide) rfl (by show _ ≤ _; first | decide | exact Nat.le_of_ble_eq_true rfl) rfl (fun H2 locs2 hW2 hS2 => ?_)
  refine lv_icmp_eq (pc := 570) (x := r) (y := r) (tgt := 1056) hx hb d_law_570 (by decide) (fun _ => ?_) (fun h => absurd rfl h)
  exact next μ1 ν1 H2 locs2 hI1 (l_swap2 hW2) hS2
theorem lc_12 {p : Program} {l : Launch} {e : Env} {s : State} {m : MethodId} {below : List Frame} {meth : Method} {c : Code} {b0 L i : Nat} {xs : Nat → Int32} {D : va_G} {cA : Nat → ClassId} {H : Heap} {locs : List Loc} {ls : Array Slot} {μ ν : z_S} (C : l_C p s m meth c b0 L xs D cA) (hi : i + 6 ≤ L) (hL : L ≤ 3072) (hl : lv_has ls 4 (l_lv b0 s.heap.size i)) (hI : z_INV μ ν) (hW : z_Wd s.heap.size D cA (z_mm true μ ν) H) (hS0 : va_S (z_A s.heap.size) s.heap H locs)
    (next : ∀ (μ' ν' : z_S) (H' : Heap) (locs' : List Loc), z_INV μ' ν' → z_Wd s.heap.size D cA (z_mm true μ' ν') H' → va_S (z_A s.heap.size) s.heap H' locs' → l_W p l e s m below meth c b0 H' locs' 1056 ls []) : l_W p l e s m below meth c b0 H locs 575 ls [] := by
  obtain ⟨A, ok, hc, hm⟩ := hI
  obtain ⟨r, μ1, ν1, e1, e2, hI1⟩ := op_warmest ok hc hm 70000 (Nat.le_refl _) (xs (i + 1))
  have hx := C.1.1
  have hb := C.1.2.1
  refine lv_aload_n (pc := 575) hx hb d_law_575 rfl (lv_at hl 1 rfl) ?_
  refine l_arg (pc := 576) (k := 1) C hS0 hl hi hL (by decide) (by decide) d_law_576 d_law_577 d_law_578 d_law_579 d_law_580 ?_
  refine l_callI (pc := 581) (o := 0) (x := r) (as := [.int (xs (i + 1))]) (st := []) C hW hS0 hl d_law_581 lkl_68 (t_X11_warmest 70000 (xs (i + 1)) μ r μ1 e1 ν) rfl (show 0 < 334 by decide) (by decide) rfl (by decide) rfl (fun H1 locs1 hW1 hS1 => ?_)
  refine lv_aload_n (pc := 584) hx hb d_law_584 rfl (lv_at hl 2 rfl) ?_
  refine l_arg (pc := 585) (k := 1) C hS1 hl hi hL (by decide) (by decide) d_law_585 d_law_586 d_law_587 d_law_588 d_law_589 ?_
  refine l_callI (pc := 590) (o := 253) (x := r) (as := [.int (xs (i + 1))]) (st := [.int r]) C (l_swap hW1) hS1 hl d_law_590 lkl_71 (t_X12_warmest 70000 (xs (i + 1)) ν r ν1 e2 μ1) rfl (show 253 < 334 by decide) (by decide) rfl (by show _ ≤ _; first | decide | exact Nat.le_of_ble_eq_true rfl) rfl (fun H2 locs2 hW2 hS2 => ?_)
  refine lv_icmp_eq (pc := 593) (x := r) (y := r) (tgt := 1056) hx hb d_law_593 (by decide) (fun _ => ?_) (fun h => absurd rfl h)
  exact next μ1 ν1 H2 locs2 hI1 (l_swap2 hW2) hS2
theorem lc_13 {p : Program} {l : Launch} {e : Env} {s : State} {m : MethodId} {below : List Frame} {meth : Method} {c : Code} {b0 L i : Nat} {xs : Nat → Int32} {D : va_G} {cA : Nat → ClassId} {H : Heap} {locs : List Loc} {ls : Array Slot} {μ ν : z_S} (C : l_C p s m meth c b0 L xs D cA) (hi : i + 6 ≤ L) (hL : L ≤ 3072) (hl : lv_has ls 4 (l_lv b0 s.heap.size i)) (hI : z_INV μ ν) (hW : z_Wd s.heap.size D cA (z_mm true μ ν) H) (hS0 : va_S (z_A s.heap.size) s.heap H locs)
    (next : ∀ (μ' ν' : z_S) (H' : Heap) (locs' : List Loc), z_INV μ' ν' → z_Wd s.heap.size D cA (z_mm true μ' ν') H' → va_S (z_A s.heap.size) s.heap H' locs' → l_W p l e s m below meth c b0 H' locs' 1056 ls []) : l_W p l e s m below meth c b0 H locs 598 ls [] := by
  obtain ⟨A, ok, hc, hm⟩ := hI
  obtain ⟨r, μ1, ν1, e1, e2, hI1⟩ := op_warms ok hc hm 70000 (Nat.le_refl _)
  have hx := C.1.1
  have hb := C.1.2.1
  refine lv_aload_n (pc := 598) hx hb d_law_598 rfl (lv_at hl 1 rfl) ?_
  refine l_callJ (pc := 599) (o := 0) (x := r) (as := []) (st := []) C hW hS0 hl d_law_599 lkl_72 (t_X11_warms 70000  μ r μ1 e1 ν) rfl (show 0 < 334 by decide) (by decide) rfl (by decide) rfl (fun H1 locs1 hW1 hS1 => ?_)
  refine lv_aload_n (pc := 602) hx hb d_law_602 rfl (lv_at hl 2 rfl) ?_
  refine l_callJ (pc := 603) (o := 253) (x := r) (as := []) (st := [.long r]) C (l_swap hW1) hS1 hl d_law_603 lkl_76 (t_X12_warms 70000  ν r ν1 e2 μ1) rfl (show 253 < 334 by decide) (by decide) rfl (by show _ ≤ _; first | decide | exact Nat.le_of_ble_eq_true rfl) rfl (fun H2 locs2 hW2 hS2 => ?_)
  refine W.lcmp (pc := 606) hx hb d_law_606 ?_
  refine lv_if_eq (pc := 607) (tgt := 1056) hx hb d_law_607 (by decide) (fun _ => ?_) (fun h => absurd (l_cmp r) h)
  exact next μ1 ν1 H2 locs2 hI1 (l_swap2 hW2) hS2
theorem lc_14 {p : Program} {l : Launch} {e : Env} {s : State} {m : MethodId} {below : List Frame} {meth : Method} {c : Code} {b0 L i : Nat} {xs : Nat → Int32} {D : va_G} {cA : Nat → ClassId} {H : Heap} {locs : List Loc} {ls : Array Slot} {μ ν : z_S} (C : l_C p s m meth c b0 L xs D cA) (hi : i + 6 ≤ L) (hL : L ≤ 3072) (hl : lv_has ls 4 (l_lv b0 s.heap.size i)) (hI : z_INV μ ν) (hW : z_Wd s.heap.size D cA (z_mm true μ ν) H) (hS0 : va_S (z_A s.heap.size) s.heap H locs)
    (next : ∀ (μ' ν' : z_S) (H' : Heap) (locs' : List Loc), z_INV μ' ν' → z_Wd s.heap.size D cA (z_mm true μ' ν') H' → va_S (z_A s.heap.size) s.heap H' locs' → l_W p l e s m below meth c b0 H' locs' 1056 ls []) : l_W p l e s m below meth c b0 H locs 612 ls [] := by
  obtain ⟨A, ok, hc, hm⟩ := hI
  obtain ⟨r, μ1, ν1, e1, e2, hI1⟩ := op_later ok hc hm 70000 (Nat.le_refl _) (xs (i + 1))
  have hx := C.1.1
  have hb := C.1.2.1
  refine lv_aload_n (pc := 612) hx hb d_law_612 rfl (lv_at hl 1 rfl) ?_
  refine l_arg (pc := 613) (k := 1) C hS0 hl hi hL (by decide) (by decide) d_law_613 d_law_614 d_law_615 d_law_616 d_law_617 ?_
  refine l_callI (pc := 618) (o := 0) (x := r) (as := [.int (xs (i + 1))]) (st := []) C hW hS0 hl d_law_618 lkl_77 (t_X11_later 70000 (xs (i + 1)) μ r μ1 e1 ν) rfl (show 0 < 334 by decide) (by decide) rfl (by decide) rfl (fun H1 locs1 hW1 hS1 => ?_)
  refine lv_aload_n (pc := 621) hx hb d_law_621 rfl (lv_at hl 2 rfl) ?_
  refine l_arg (pc := 622) (k := 1) C hS1 hl hi hL (by decide) (by decide) d_law_622 d_law_623 d_law_624 d_law_625 d_law_626 ?_
  refine l_callI (pc := 627) (o := 253) (x := r) (as := [.int (xs (i + 1))]) (st := [.int r]) C (l_swap hW1) hS1 hl d_law_627 lkl_80 (t_X12_later 70000 (xs (i + 1)) ν r ν1 e2 μ1) rfl (show 253 < 334 by decide) (by decide) rfl (by show _ ≤ _; first | decide | exact Nat.le_of_ble_eq_true rfl) rfl (fun H2 locs2 hW2 hS2 => ?_)
  refine lv_icmp_eq (pc := 630) (x := r) (y := r) (tgt := 1056) hx hb d_law_630 (by decide) (fun _ => ?_) (fun h => absurd rfl h)
  exact next μ1 ν1 H2 locs2 hI1 (l_swap2 hW2) hS2
theorem lc_15 {p : Program} {l : Launch} {e : Env} {s : State} {m : MethodId} {below : List Frame} {meth : Method} {c : Code} {b0 L i : Nat} {xs : Nat → Int32} {D : va_G} {cA : Nat → ClassId} {H : Heap} {locs : List Loc} {ls : Array Slot} {μ ν : z_S} (C : l_C p s m meth c b0 L xs D cA) (hi : i + 6 ≤ L) (hL : L ≤ 3072) (hl : lv_has ls 4 (l_lv b0 s.heap.size i)) (hI : z_INV μ ν) (hW : z_Wd s.heap.size D cA (z_mm true μ ν) H) (hS0 : va_S (z_A s.heap.size) s.heap H locs)
    (next : ∀ (μ' ν' : z_S) (H' : Heap) (locs' : List Loc), z_INV μ' ν' → z_Wd s.heap.size D cA (z_mm true μ' ν') H' → va_S (z_A s.heap.size) s.heap H' locs' → l_W p l e s m below meth c b0 H' locs' 1056 ls []) : l_W p l e s m below meth c b0 H locs 635 ls [] := by
  obtain ⟨A, ok, hc, hm⟩ := hI
  obtain ⟨r, μ1, ν1, e1, e2, hI1⟩ := op_finished ok hc hm 70000 (Nat.le_refl _)
  have hx := C.1.1
  have hb := C.1.2.1
  refine lv_aload_n (pc := 635) hx hb d_law_635 rfl (lv_at hl 1 rfl) ?_
  refine l_callI (pc := 636) (o := 0) (x := r) (as := []) (st := []) C hW hS0 hl d_law_636 lkl_81 (t_X11_finished 70000  μ r μ1 e1 ν) rfl (show 0 < 334 by decide) (by decide) rfl (by decide) rfl (fun H1 locs1 hW1 hS1 => ?_)
  refine lv_aload_n (pc := 639) hx hb d_law_639 rfl (lv_at hl 2 rfl) ?_
  refine l_callI (pc := 640) (o := 253) (x := r) (as := []) (st := [.int r]) C (l_swap hW1) hS1 hl d_law_640 lkl_84 (t_X12_finished 70000  ν r ν1 e2 μ1) rfl (show 253 < 334 by decide) (by decide) rfl (by show _ ≤ _; first | decide | exact Nat.le_of_ble_eq_true rfl) rfl (fun H2 locs2 hW2 hS2 => ?_)
  refine lv_icmp_eq (pc := 643) (x := r) (y := r) (tgt := 1056) hx hb d_law_643 (by decide) (fun _ => ?_) (fun h => absurd rfl h)
  exact next μ1 ν1 H2 locs2 hI1 (l_swap2 hW2) hS2
theorem lc_16 {p : Program} {l : Launch} {e : Env} {s : State} {m : MethodId} {below : List Frame} {meth : Method} {c : Code} {b0 L i : Nat} {xs : Nat → Int32} {D : va_G} {cA : Nat → ClassId} {H : Heap} {locs : List Loc} {ls : Array Slot} {μ ν : z_S} (C : l_C p s m meth c b0 L xs D cA) (hi : i + 6 ≤ L) (hL : L ≤ 3072) (hl : lv_has ls 4 (l_lv b0 s.heap.size i)) (hI : z_INV μ ν) (hW : z_Wd s.heap.size D cA (z_mm true μ ν) H) (hS0 : va_S (z_A s.heap.size) s.heap H locs)
    (next : ∀ (μ' ν' : z_S) (H' : Heap) (locs' : List Loc), z_INV μ' ν' → z_Wd s.heap.size D cA (z_mm true μ' ν') H' → va_S (z_A s.heap.size) s.heap H' locs' → l_W p l e s m below meth c b0 H' locs' 1056 ls []) : l_W p l e s m below meth c b0 H locs 648 ls [] := by
  obtain ⟨A, ok, hc, hm⟩ := hI
  obtain ⟨r, μ1, ν1, e1, e2, hI1⟩ := op_sheets ok hc hm 200000000 (Nat.le_refl _) (xs (i + 1))
  have hx := C.1.1
  have hb := C.1.2.1
  refine lv_aload_n (pc := 648) hx hb d_law_648 rfl (lv_at hl 1 rfl) ?_
  refine l_arg (pc := 649) (k := 1) C hS0 hl hi hL (by decide) (by decide) d_law_649 d_law_650 d_law_651 d_law_652 d_law_653 ?_
  refine l_callI (pc := 654) (o := 0) (x := r) (as := [.int (xs (i + 1))]) (st := []) C hW hS0 hl d_law_654 lkl_85 (t_X11_sheets 200000000 (xs (i + 1)) μ r μ1 e1 ν) rfl (show 0 < 334 by decide) (by decide) rfl (by decide) rfl (fun H1 locs1 hW1 hS1 => ?_)
  refine lv_aload_n (pc := 657) hx hb d_law_657 rfl (lv_at hl 2 rfl) ?_
  refine l_arg (pc := 658) (k := 1) C hS1 hl hi hL (by decide) (by decide) d_law_658 d_law_659 d_law_660 d_law_661 d_law_662 ?_
  refine l_callI (pc := 663) (o := 253) (x := r) (as := [.int (xs (i + 1))]) (st := [.int r]) C (l_swap hW1) hS1 hl d_law_663 lkl_88 (t_X12_sheets 200000000 (xs (i + 1)) ν r ν1 e2 μ1) rfl (show 253 < 334 by decide) (by decide) rfl (by show _ ≤ _; first | decide | exact Nat.le_of_ble_eq_true rfl) rfl (fun H2 locs2 hW2 hS2 => ?_)
  refine lv_icmp_eq (pc := 666) (x := r) (y := r) (tgt := 1056) hx hb d_law_666 (by decide) (fun _ => ?_) (fun h => absurd rfl h)
  exact next μ1 ν1 H2 locs2 hI1 (l_swap2 hW2) hS2
theorem lc_17 {p : Program} {l : Launch} {e : Env} {s : State} {m : MethodId} {below : List Frame} {meth : Method} {c : Code} {b0 L i : Nat} {xs : Nat → Int32} {D : va_G} {cA : Nat → ClassId} {H : Heap} {locs : List Loc} {ls : Array Slot} {μ ν : z_S} (C : l_C p s m meth c b0 L xs D cA) (hi : i + 6 ≤ L) (hL : L ≤ 3072) (hl : lv_has ls 4 (l_lv b0 s.heap.size i)) (hI : z_INV μ ν) (hW : z_Wd s.heap.size D cA (z_mm true μ ν) H) (hS0 : va_S (z_A s.heap.size) s.heap H locs)
    (next : ∀ (μ' ν' : z_S) (H' : Heap) (locs' : List Loc), z_INV μ' ν' → z_Wd s.heap.size D cA (z_mm true μ' ν') H' → va_S (z_A s.heap.size) s.heap H' locs' → l_W p l e s m below meth c b0 H' locs' 1056 ls []) : l_W p l e s m below meth c b0 H locs 671 ls [] := by
  obtain ⟨A, ok, hc, hm⟩ := hI
  obtain ⟨r, μ1, ν1, e1, e2, hI1⟩ := op_shared ok hc hm 400000 (Nat.le_refl _) (xs (i + 1))
  have hx := C.1.1
  have hb := C.1.2.1
  refine lv_aload_n (pc := 671) hx hb d_law_671 rfl (lv_at hl 1 rfl) ?_
  refine l_arg (pc := 672) (k := 1) C hS0 hl hi hL (by decide) (by decide) d_law_672 d_law_673 d_law_674 d_law_675 d_law_676 ?_
  refine l_callI (pc := 677) (o := 0) (x := r) (as := [.int (xs (i + 1))]) (st := []) C hW hS0 hl d_law_677 lkl_89 (t_X11_shared 400000 (xs (i + 1)) μ r μ1 e1 ν) rfl (show 0 < 334 by decide) (by decide) rfl (by decide) rfl (fun H1 locs1 hW1 hS1 => ?_)
  refine lv_aload_n (pc := 680) hx hb d_law_680 rfl (lv_at hl 2 rfl) ?_
  refine l_arg (pc := 681) (k := 1) C hS1 hl hi hL (by decide) (by decide) d_law_681 d_law_682 d_law_683 d_law_684 d_law_685 ?_
  refine l_callI (pc := 686) (o := 253) (x := r) (as := [.int (xs (i + 1))]) (st := [.int r]) C (l_swap hW1) hS1 hl d_law_686 lkl_92 (t_X12_shared 400000 (xs (i + 1)) ν r ν1 e2 μ1) rfl (show 253 < 334 by decide) (by decide) rfl (by show _ ≤ _; first | decide | exact Nat.le_of_ble_eq_true rfl) rfl (fun H2 locs2 hW2 hS2 => ?_)
  refine lv_icmp_eq (pc := 689) (x := r) (y := r) (tgt := 1056) hx hb d_law_689 (by decide) (fun _ => ?_) (fun h => absurd rfl h)
  exact next μ1 ν1 H2 locs2 hI1 (l_swap2 hW2) hS2
theorem lc_18 {p : Program} {l : Launch} {e : Env} {s : State} {m : MethodId} {below : List Frame} {meth : Method} {c : Code} {b0 L i : Nat} {xs : Nat → Int32} {D : va_G} {cA : Nat → ClassId} {H : Heap} {locs : List Loc} {ls : Array Slot} {μ ν : z_S} (C : l_C p s m meth c b0 L xs D cA) (hi : i + 6 ≤ L) (hL : L ≤ 3072) (hl : lv_has ls 4 (l_lv b0 s.heap.size i)) (hI : z_INV μ ν) (hW : z_Wd s.heap.size D cA (z_mm true μ ν) H) (hS0 : va_S (z_A s.heap.size) s.heap H locs)
    (next : ∀ (μ' ν' : z_S) (H' : Heap) (locs' : List Loc), z_INV μ' ν' → z_Wd s.heap.size D cA (z_mm true μ' ν') H' → va_S (z_A s.heap.size) s.heap H' locs' → l_W p l e s m below meth c b0 H' locs' 1056 ls []) : l_W p l e s m below meth c b0 H locs 694 ls [] := by
  obtain ⟨A, ok, hc, hm⟩ := hI
  obtain ⟨r, μ1, ν1, e1, e2, hI1⟩ := op_tell ok hc hm 20 (Nat.le_refl _) (xs (i + 1))
  have hx := C.1.1
  have hb := C.1.2.1
  refine lv_aload_n (pc := 694) hx hb d_law_694 rfl (lv_at hl 1 rfl) ?_
  refine l_arg (pc := 695) (k := 1) C hS0 hl hi hL (by decide) (by decide) d_law_695 d_law_696 d_law_697 d_law_698 d_law_699 ?_
  refine l_callI (pc := 700) (o := 0) (x := r) (as := [.int (xs (i + 1))]) (st := []) C hW hS0 hl d_law_700 lkl_93 (t_X11_tell 20 (xs (i + 1)) μ r μ1 e1 ν) rfl (show 0 < 334 by decide) (by decide) rfl (by decide) rfl (fun H1 locs1 hW1 hS1 => ?_)
  refine lv_aload_n (pc := 703) hx hb d_law_703 rfl (lv_at hl 2 rfl) ?_
  refine l_arg (pc := 704) (k := 1) C hS1 hl hi hL (by decide) (by decide) d_law_704 d_law_705 d_law_706 d_law_707 d_law_708 ?_
  refine l_callI (pc := 709) (o := 253) (x := r) (as := [.int (xs (i + 1))]) (st := [.int r]) C (l_swap hW1) hS1 hl d_law_709 lkl_96 (t_X12_tell 20 (xs (i + 1)) ν r ν1 e2 μ1) rfl (show 253 < 334 by decide) (by decide) rfl (by show _ ≤ _; first | decide | exact Nat.le_of_ble_eq_true rfl) rfl (fun H2 locs2 hW2 hS2 => ?_)
  refine lv_icmp_eq (pc := 712) (x := r) (y := r) (tgt := 1056) hx hb d_law_712 (by decide) (fun _ => ?_) (fun h => absurd rfl h)
  exact next μ1 ν1 H2 locs2 hI1 (l_swap2 hW2) hS2
theorem lc_19 {p : Program} {l : Launch} {e : Env} {s : State} {m : MethodId} {below : List Frame} {meth : Method} {c : Code} {b0 L i : Nat} {xs : Nat → Int32} {D : va_G} {cA : Nat → ClassId} {H : Heap} {locs : List Loc} {ls : Array Slot} {μ ν : z_S} (C : l_C p s m meth c b0 L xs D cA) (hi : i + 6 ≤ L) (hL : L ≤ 3072) (hl : lv_has ls 4 (l_lv b0 s.heap.size i)) (hI : z_INV μ ν) (hW : z_Wd s.heap.size D cA (z_mm true μ ν) H) (hS0 : va_S (z_A s.heap.size) s.heap H locs)
    (next : ∀ (μ' ν' : z_S) (H' : Heap) (locs' : List Loc), z_INV μ' ν' → z_Wd s.heap.size D cA (z_mm true μ' ν') H' → va_S (z_A s.heap.size) s.heap H' locs' → l_W p l e s m below meth c b0 H' locs' 1056 ls []) : l_W p l e s m below meth c b0 H locs 717 ls [] := by
  obtain ⟨A, ok, hc, hm⟩ := hI
  obtain ⟨r, μ1, ν1, e1, e2, hI1⟩ := op_children ok hc hm 50000000 (Nat.le_refl _) (xs (i + 1))
  have hx := C.1.1
  have hb := C.1.2.1
  refine lv_aload_n (pc := 717) hx hb d_law_717 rfl (lv_at hl 1 rfl) ?_
  refine l_arg (pc := 718) (k := 1) C hS0 hl hi hL (by decide) (by decide) d_law_718 d_law_719 d_law_720 d_law_721 d_law_722 ?_
  refine l_callI (pc := 723) (o := 0) (x := r) (as := [.int (xs (i + 1))]) (st := []) C hW hS0 hl d_law_723 lkl_97 (t_X11_children 50000000 (xs (i + 1)) μ r μ1 e1 ν) rfl (show 0 < 334 by decide) (by decide) rfl (by decide) rfl (fun H1 locs1 hW1 hS1 => ?_)
  refine lv_aload_n (pc := 726) hx hb d_law_726 rfl (lv_at hl 2 rfl) ?_
  refine l_arg (pc := 727) (k := 1) C hS1 hl hi hL (by decide) (by decide) d_law_727 d_law_728 d_law_729 d_law_730 d_law_731 ?_
  refine l_callI (pc := 732) (o := 253) (x := r) (as := [.int (xs (i + 1))]) (st := [.int r]) C (l_swap hW1) hS1 hl d_law_732 lkl_100 (t_X12_children 50000000 (xs (i + 1)) ν r ν1 e2 μ1) rfl (show 253 < 334 by decide) (by decide) rfl (by show _ ≤ _; first | decide | exact Nat.le_of_ble_eq_true rfl) rfl (fun H2 locs2 hW2 hS2 => ?_)
  refine lv_icmp_eq (pc := 735) (x := r) (y := r) (tgt := 1056) hx hb d_law_735 (by decide) (fun _ => ?_) (fun h => absurd rfl h)
  exact next μ1 ν1 H2 locs2 hI1 (l_swap2 hW2) hS2
theorem lc_20 {p : Program} {l : Launch} {e : Env} {s : State} {m : MethodId} {below : List Frame} {meth : Method} {c : Code} {b0 L i : Nat} {xs : Nat → Int32} {D : va_G} {cA : Nat → ClassId} {H : Heap} {locs : List Loc} {ls : Array Slot} {μ ν : z_S} (C : l_C p s m meth c b0 L xs D cA) (hi : i + 6 ≤ L) (hL : L ≤ 3072) (hl : lv_has ls 4 (l_lv b0 s.heap.size i)) (hI : z_INV μ ν) (hW : z_Wd s.heap.size D cA (z_mm true μ ν) H) (hS0 : va_S (z_A s.heap.size) s.heap H locs)
    (next : ∀ (μ' ν' : z_S) (H' : Heap) (locs' : List Loc), z_INV μ' ν' → z_Wd s.heap.size D cA (z_mm true μ' ν') H' → va_S (z_A s.heap.size) s.heap H' locs' → l_W p l e s m below meth c b0 H' locs' 1056 ls []) : l_W p l e s m below meth c b0 H locs 740 ls [] := by
  obtain ⟨A, ok, hc, hm⟩ := hI
  obtain ⟨r, μ1, ν1, e1, e2, hI1⟩ := op_see ok hc hm 60 (Nat.le_refl _)
  have hx := C.1.1
  have hb := C.1.2.1
  refine lv_aload_n (pc := 740) hx hb d_law_740 rfl (lv_at hl 1 rfl) ?_
  refine l_callI (pc := 741) (o := 0) (x := r) (as := []) (st := []) C hW hS0 hl d_law_741 lkl_101 (t_X11_see 60  μ r μ1 e1 ν) rfl (show 0 < 334 by decide) (by decide) rfl (by decide) rfl (fun H1 locs1 hW1 hS1 => ?_)
  refine lv_aload_n (pc := 744) hx hb d_law_744 rfl (lv_at hl 2 rfl) ?_
  refine l_callI (pc := 745) (o := 253) (x := r) (as := []) (st := [.int r]) C (l_swap hW1) hS1 hl d_law_745 lkl_104 (t_X12_see 60  ν r ν1 e2 μ1) rfl (show 253 < 334 by decide) (by decide) rfl (by show _ ≤ _; first | decide | exact Nat.le_of_ble_eq_true rfl) rfl (fun H2 locs2 hW2 hS2 => ?_)
  refine lv_icmp_eq (pc := 748) (x := r) (y := r) (tgt := 1056) hx hb d_law_748 (by decide) (fun _ => ?_) (fun h => absurd rfl h)
  exact next μ1 ν1 H2 locs2 hI1 (l_swap2 hW2) hS2
theorem lc_21 {p : Program} {l : Launch} {e : Env} {s : State} {m : MethodId} {below : List Frame} {meth : Method} {c : Code} {b0 L i : Nat} {xs : Nat → Int32} {D : va_G} {cA : Nat → ClassId} {H : Heap} {locs : List Loc} {ls : Array Slot} {μ ν : z_S} (C : l_C p s m meth c b0 L xs D cA) (hi : i + 6 ≤ L) (hL : L ≤ 3072) (hl : lv_has ls 4 (l_lv b0 s.heap.size i)) (hI : z_INV μ ν) (hW : z_Wd s.heap.size D cA (z_mm true μ ν) H) (hS0 : va_S (z_A s.heap.size) s.heap H locs)
    (next : ∀ (μ' ν' : z_S) (H' : Heap) (locs' : List Loc), z_INV μ' ν' → z_Wd s.heap.size D cA (z_mm true μ' ν') H' → va_S (z_A s.heap.size) s.heap H' locs' → l_W p l e s m below meth c b0 H' locs' 1056 ls []) : l_W p l e s m below meth c b0 H locs 753 ls [] := by
  obtain ⟨A, ok, hc, hm⟩ := hI
  obtain ⟨r, μ1, ν1, e1, e2, hI1⟩ := op_whose ok hc hm 1700 (Nat.le_refl _)
  have hx := C.1.1
  have hb := C.1.2.1
  refine lv_aload_n (pc := 753) hx hb d_law_753 rfl (lv_at hl 1 rfl) ?_
  refine l_callI (pc := 754) (o := 0) (x := r) (as := []) (st := []) C hW hS0 hl d_law_754 lkl_105 (t_X11_whose 1700  μ r μ1 e1 ν) rfl (show 0 < 334 by decide) (by decide) rfl (by decide) rfl (fun H1 locs1 hW1 hS1 => ?_)
  refine lv_aload_n (pc := 757) hx hb d_law_757 rfl (lv_at hl 2 rfl) ?_
  refine l_callI (pc := 758) (o := 253) (x := r) (as := []) (st := [.int r]) C (l_swap hW1) hS1 hl d_law_758 lkl_108 (t_X12_whose 1700  ν r ν1 e2 μ1) rfl (show 253 < 334 by decide) (by decide) rfl (by show _ ≤ _; first | decide | exact Nat.le_of_ble_eq_true rfl) rfl (fun H2 locs2 hW2 hS2 => ?_)
  refine lv_icmp_eq (pc := 761) (x := r) (y := r) (tgt := 1056) hx hb d_law_761 (by decide) (fun _ => ?_) (fun h => absurd rfl h)
  exact next μ1 ν1 H2 locs2 hI1 (l_swap2 hW2) hS2
theorem lc_22 {p : Program} {l : Launch} {e : Env} {s : State} {m : MethodId} {below : List Frame} {meth : Method} {c : Code} {b0 L i : Nat} {xs : Nat → Int32} {D : va_G} {cA : Nat → ClassId} {H : Heap} {locs : List Loc} {ls : Array Slot} {μ ν : z_S} (C : l_C p s m meth c b0 L xs D cA) (hi : i + 6 ≤ L) (hL : L ≤ 3072) (hl : lv_has ls 4 (l_lv b0 s.heap.size i)) (hI : z_INV μ ν) (hW : z_Wd s.heap.size D cA (z_mm true μ ν) H) (hS0 : va_S (z_A s.heap.size) s.heap H locs)
    (next : ∀ (μ' ν' : z_S) (H' : Heap) (locs' : List Loc), z_INV μ' ν' → z_Wd s.heap.size D cA (z_mm true μ' ν') H' → va_S (z_A s.heap.size) s.heap H' locs' → l_W p l e s m below meth c b0 H' locs' 1056 ls []) : l_W p l e s m below meth c b0 H locs 766 ls [] := by
  obtain ⟨A, ok, hc, hm⟩ := hI
  obtain ⟨r, μ1, ν1, e1, e2, hI1⟩ := op_watched ok hc hm 1700 (Nat.le_refl _) (xs (i + 1))
  have hx := C.1.1
  have hb := C.1.2.1
  refine lv_aload_n (pc := 766) hx hb d_law_766 rfl (lv_at hl 1 rfl) ?_
  refine l_arg (pc := 767) (k := 1) C hS0 hl hi hL (by decide) (by decide) d_law_767 d_law_768 d_law_769 d_law_770 d_law_771 ?_
  refine l_callI (pc := 772) (o := 0) (x := r) (as := [.int (xs (i + 1))]) (st := []) C hW hS0 hl d_law_772 lkl_109 (t_X11_watched 1700 (xs (i + 1)) μ r μ1 e1 ν) rfl (show 0 < 334 by decide) (by decide) rfl (by decide) rfl (fun H1 locs1 hW1 hS1 => ?_)
  refine lv_aload_n (pc := 775) hx hb d_law_775 rfl (lv_at hl 2 rfl) ?_
  refine l_arg (pc := 776) (k := 1) C hS1 hl hi hL (by decide) (by decide) d_law_776 d_law_777 d_law_778 d_law_779 d_law_780 ?_
  refine l_callI (pc := 781) (o := 253) (x := r) (as := [.int (xs (i + 1))]) (st := [.int r]) C (l_swap hW1) hS1 hl d_law_781 lkl_112 (t_X12_watched 1700 (xs (i + 1)) ν r ν1 e2 μ1) rfl (show 253 < 334 by decide) (by decide) rfl (by show _ ≤ _; first | decide | exact Nat.le_of_ble_eq_true rfl) rfl (fun H2 locs2 hW2 hS2 => ?_)
  refine lv_icmp_eq (pc := 784) (x := r) (y := r) (tgt := 1056) hx hb d_law_784 (by decide) (fun _ => ?_) (fun h => absurd rfl h)
  exact next μ1 ν1 H2 locs2 hI1 (l_swap2 hW2) hS2
theorem lc_23 {p : Program} {l : Launch} {e : Env} {s : State} {m : MethodId} {below : List Frame} {meth : Method} {c : Code} {b0 L i : Nat} {xs : Nat → Int32} {D : va_G} {cA : Nat → ClassId} {H : Heap} {locs : List Loc} {ls : Array Slot} {μ ν : z_S} (C : l_C p s m meth c b0 L xs D cA) (hi : i + 6 ≤ L) (hL : L ≤ 3072) (hl : lv_has ls 4 (l_lv b0 s.heap.size i)) (hI : z_INV μ ν) (hW : z_Wd s.heap.size D cA (z_mm true μ ν) H) (hS0 : va_S (z_A s.heap.size) s.heap H locs)
    (next : ∀ (μ' ν' : z_S) (H' : Heap) (locs' : List Loc), z_INV μ' ν' → z_Wd s.heap.size D cA (z_mm true μ' ν') H' → va_S (z_A s.heap.size) s.heap H' locs' → l_W p l e s m below meth c b0 H' locs' 1056 ls []) : l_W p l e s m below meth c b0 H locs 789 ls [] := by
  obtain ⟨A, ok, hc, hm⟩ := hI
  obtain ⟨r, μ1, ν1, e1, e2, hI1⟩ := op_answer ok hc hm 1700 (Nat.le_refl _) (xs (i + 1)) (xs (i + 2))
  have hx := C.1.1
  have hb := C.1.2.1
  refine lv_aload_n (pc := 789) hx hb d_law_789 rfl (lv_at hl 1 rfl) ?_
  refine l_arg (pc := 790) (k := 1) C hS0 hl hi hL (by decide) (by decide) d_law_790 d_law_791 d_law_792 d_law_793 d_law_794 ?_
  refine l_arg (pc := 795) (k := 2) C hS0 hl hi hL (by decide) (by decide) d_law_795 d_law_796 d_law_797 d_law_798 d_law_799 ?_
  refine l_callI (pc := 800) (o := 0) (x := r) (as := [.int (xs (i + 1)), .int (xs (i + 2))]) (st := []) C hW hS0 hl d_law_800 lkl_113 (t_X11_answer 1700 (xs (i + 1)) (xs (i + 2)) μ r μ1 e1 ν) rfl (show 0 < 334 by decide) (by decide) rfl (by decide) rfl (fun H1 locs1 hW1 hS1 => ?_)
  refine lv_aload_n (pc := 803) hx hb d_law_803 rfl (lv_at hl 2 rfl) ?_
  refine l_arg (pc := 804) (k := 1) C hS1 hl hi hL (by decide) (by decide) d_law_804 d_law_805 d_law_806 d_law_807 d_law_808 ?_
  refine l_arg (pc := 809) (k := 2) C hS1 hl hi hL (by decide) (by decide) d_law_809 d_law_810 d_law_811 d_law_812 d_law_813 ?_
  refine l_callI (pc := 814) (o := 253) (x := r) (as := [.int (xs (i + 1)), .int (xs (i + 2))]) (st := [.int r]) C (l_swap hW1) hS1 hl d_law_814 lkl_116 (t_X12_answer 1700 (xs (i + 1)) (xs (i + 2)) ν r ν1 e2 μ1) rfl (show 253 < 334 by decide) (by decide) rfl (by show _ ≤ _; first | decide | exact Nat.le_of_ble_eq_true rfl) rfl (fun H2 locs2 hW2 hS2 => ?_)
  refine lv_icmp_eq (pc := 817) (x := r) (y := r) (tgt := 1056) hx hb d_law_817 (by decide) (fun _ => ?_) (fun h => absurd rfl h)
  exact next μ1 ν1 H2 locs2 hI1 (l_swap2 hW2) hS2
theorem lc_24 {p : Program} {l : Launch} {e : Env} {s : State} {m : MethodId} {below : List Frame} {meth : Method} {c : Code} {b0 L i : Nat} {xs : Nat → Int32} {D : va_G} {cA : Nat → ClassId} {H : Heap} {locs : List Loc} {ls : Array Slot} {μ ν : z_S} (C : l_C p s m meth c b0 L xs D cA) (hi : i + 6 ≤ L) (hL : L ≤ 3072) (hl : lv_has ls 4 (l_lv b0 s.heap.size i)) (hI : z_INV μ ν) (hW : z_Wd s.heap.size D cA (z_mm true μ ν) H) (hS0 : va_S (z_A s.heap.size) s.heap H locs)
    (next : ∀ (μ' ν' : z_S) (H' : Heap) (locs' : List Loc), z_INV μ' ν' → z_Wd s.heap.size D cA (z_mm true μ' ν') H' → va_S (z_A s.heap.size) s.heap H' locs' → l_W p l e s m below meth c b0 H' locs' 1056 ls []) : l_W p l e s m below meth c b0 H locs 822 ls [] := by
  obtain ⟨A, ok, hc, hm⟩ := hI
  obtain ⟨r, μ1, ν1, e1, e2, hI1⟩ := op_sheet ok hc hm 40 (Nat.le_refl _) (xs (i + 1)) (xs (i + 2))
  have hx := C.1.1
  have hb := C.1.2.1
  refine lv_aload_n (pc := 822) hx hb d_law_822 rfl (lv_at hl 1 rfl) ?_
  refine l_arg (pc := 823) (k := 1) C hS0 hl hi hL (by decide) (by decide) d_law_823 d_law_824 d_law_825 d_law_826 d_law_827 ?_
  refine l_arg (pc := 828) (k := 2) C hS0 hl hi hL (by decide) (by decide) d_law_828 d_law_829 d_law_830 d_law_831 d_law_832 ?_
  refine l_callI (pc := 833) (o := 0) (x := r) (as := [.int (xs (i + 1)), .int (xs (i + 2))]) (st := []) C hW hS0 hl d_law_833 lkl_117 (t_X11_sheet 40 (xs (i + 1)) (xs (i + 2)) μ r μ1 e1 ν) rfl (show 0 < 334 by decide) (by decide) rfl (by decide) rfl (fun H1 locs1 hW1 hS1 => ?_)
  refine lv_aload_n (pc := 836) hx hb d_law_836 rfl (lv_at hl 2 rfl) ?_
  refine l_arg (pc := 837) (k := 1) C hS1 hl hi hL (by decide) (by decide) d_law_837 d_law_838 d_law_839 d_law_840 d_law_841 ?_
  refine l_arg (pc := 842) (k := 2) C hS1 hl hi hL (by decide) (by decide) d_law_842 d_law_843 d_law_844 d_law_845 d_law_846 ?_
  refine l_callI (pc := 847) (o := 253) (x := r) (as := [.int (xs (i + 1)), .int (xs (i + 2))]) (st := [.int r]) C (l_swap hW1) hS1 hl d_law_847 lkl_121 (t_X12_sheet 40 (xs (i + 1)) (xs (i + 2)) ν r ν1 e2 μ1) rfl (show 253 < 334 by decide) (by decide) rfl (by show _ ≤ _; first | decide | exact Nat.le_of_ble_eq_true rfl) rfl (fun H2 locs2 hW2 hS2 => ?_)
  refine lv_icmp_eq (pc := 850) (x := r) (y := r) (tgt := 1056) hx hb d_law_850 (by decide) (fun _ => ?_) (fun h => absurd rfl h)
  exact next μ1 ν1 H2 locs2 hI1 (l_swap2 hW2) hS2
theorem lc_25 {p : Program} {l : Launch} {e : Env} {s : State} {m : MethodId} {below : List Frame} {meth : Method} {c : Code} {b0 L i : Nat} {xs : Nat → Int32} {D : va_G} {cA : Nat → ClassId} {H : Heap} {locs : List Loc} {ls : Array Slot} {μ ν : z_S} (C : l_C p s m meth c b0 L xs D cA) (hi : i + 6 ≤ L) (hL : L ≤ 3072) (hl : lv_has ls 4 (l_lv b0 s.heap.size i)) (hI : z_INV μ ν) (hW : z_Wd s.heap.size D cA (z_mm true μ ν) H) (hS0 : va_S (z_A s.heap.size) s.heap H locs)
    (next : ∀ (μ' ν' : z_S) (H' : Heap) (locs' : List Loc), z_INV μ' ν' → z_Wd s.heap.size D cA (z_mm true μ' ν') H' → va_S (z_A s.heap.size) s.heap H' locs' → l_W p l e s m below meth c b0 H' locs' 1056 ls []) : l_W p l e s m below meth c b0 H locs 855 ls [] := by
  obtain ⟨A, ok, hc, hm⟩ := hI
  obtain ⟨r, μ1, ν1, e1, e2, hI1⟩ := op_give ok hc hm 40 (Nat.le_refl _) (xs (i + 1)) (xs (i + 2))
  have hx := C.1.1
  have hb := C.1.2.1
  refine lv_aload_n (pc := 855) hx hb d_law_855 rfl (lv_at hl 1 rfl) ?_
  refine l_arg (pc := 856) (k := 1) C hS0 hl hi hL (by decide) (by decide) d_law_856 d_law_857 d_law_858 d_law_859 d_law_860 ?_
  refine l_arg (pc := 861) (k := 2) C hS0 hl hi hL (by decide) (by decide) d_law_861 d_law_862 d_law_863 d_law_864 d_law_865 ?_
  refine l_callI (pc := 866) (o := 0) (x := r) (as := [.int (xs (i + 1)), .int (xs (i + 2))]) (st := []) C hW hS0 hl d_law_866 lkl_122 (t_X11_give 40 (xs (i + 1)) (xs (i + 2)) μ r μ1 e1 ν) rfl (show 0 < 334 by decide) (by decide) rfl (by decide) rfl (fun H1 locs1 hW1 hS1 => ?_)
  refine lv_aload_n (pc := 869) hx hb d_law_869 rfl (lv_at hl 2 rfl) ?_
  refine l_arg (pc := 870) (k := 1) C hS1 hl hi hL (by decide) (by decide) d_law_870 d_law_871 d_law_872 d_law_873 d_law_874 ?_
  refine l_arg (pc := 875) (k := 2) C hS1 hl hi hL (by decide) (by decide) d_law_875 d_law_876 d_law_877 d_law_878 d_law_879 ?_
  refine l_callI (pc := 880) (o := 253) (x := r) (as := [.int (xs (i + 1)), .int (xs (i + 2))]) (st := [.int r]) C (l_swap hW1) hS1 hl d_law_880 lkl_125 (t_X12_give 40 (xs (i + 1)) (xs (i + 2)) ν r ν1 e2 μ1) rfl (show 253 < 334 by decide) (by decide) rfl (by show _ ≤ _; first | decide | exact Nat.le_of_ble_eq_true rfl) rfl (fun H2 locs2 hW2 hS2 => ?_)
  refine lv_icmp_eq (pc := 883) (x := r) (y := r) (tgt := 1056) hx hb d_law_883 (by decide) (fun _ => ?_) (fun h => absurd rfl h)
  exact next μ1 ν1 H2 locs2 hI1 (l_swap2 hW2) hS2
theorem lc_26 {p : Program} {l : Launch} {e : Env} {s : State} {m : MethodId} {below : List Frame} {meth : Method} {c : Code} {b0 L i : Nat} {xs : Nat → Int32} {D : va_G} {cA : Nat → ClassId} {H : Heap} {locs : List Loc} {ls : Array Slot} {μ ν : z_S} (C : l_C p s m meth c b0 L xs D cA) (hi : i + 6 ≤ L) (hL : L ≤ 3072) (hl : lv_has ls 4 (l_lv b0 s.heap.size i)) (hI : z_INV μ ν) (hW : z_Wd s.heap.size D cA (z_mm true μ ν) H) (hS0 : va_S (z_A s.heap.size) s.heap H locs)
    (next : ∀ (μ' ν' : z_S) (H' : Heap) (locs' : List Loc), z_INV μ' ν' → z_Wd s.heap.size D cA (z_mm true μ' ν') H' → va_S (z_A s.heap.size) s.heap H' locs' → l_W p l e s m below meth c b0 H' locs' 1056 ls []) : l_W p l e s m below meth c b0 H locs 888 ls [] := by
  obtain ⟨A, ok, hc, hm⟩ := hI
  obtain ⟨r, μ1, ν1, e1, e2, hI1⟩ := op_evenings ok hc hm 70000 (Nat.le_refl _) (xs (i + 1))
  have hx := C.1.1
  have hb := C.1.2.1
  refine lv_aload_n (pc := 888) hx hb d_law_888 rfl (lv_at hl 1 rfl) ?_
  refine l_arg (pc := 889) (k := 1) C hS0 hl hi hL (by decide) (by decide) d_law_889 d_law_890 d_law_891 d_law_892 d_law_893 ?_
  refine l_callI (pc := 894) (o := 0) (x := r) (as := [.int (xs (i + 1))]) (st := []) C hW hS0 hl d_law_894 lkl_126 (t_X11_evenings 70000 (xs (i + 1)) μ r μ1 e1 ν) rfl (show 0 < 334 by decide) (by decide) rfl (by decide) rfl (fun H1 locs1 hW1 hS1 => ?_)
  refine lv_aload_n (pc := 897) hx hb d_law_897 rfl (lv_at hl 2 rfl) ?_
  refine l_arg (pc := 898) (k := 1) C hS1 hl hi hL (by decide) (by decide) d_law_898 d_law_899 d_law_900 d_law_901 d_law_902 ?_
  refine l_callI (pc := 903) (o := 253) (x := r) (as := [.int (xs (i + 1))]) (st := [.int r]) C (l_swap hW1) hS1 hl d_law_903 lkl_129 (t_X12_evenings 70000 (xs (i + 1)) ν r ν1 e2 μ1) rfl (show 253 < 334 by decide) (by decide) rfl (by show _ ≤ _; first | decide | exact Nat.le_of_ble_eq_true rfl) rfl (fun H2 locs2 hW2 hS2 => ?_)
  refine lv_icmp_eq (pc := 906) (x := r) (y := r) (tgt := 1056) hx hb d_law_906 (by decide) (fun _ => ?_) (fun h => absurd rfl h)
  exact next μ1 ν1 H2 locs2 hI1 (l_swap2 hW2) hS2
theorem lc_27 {p : Program} {l : Launch} {e : Env} {s : State} {m : MethodId} {below : List Frame} {meth : Method} {c : Code} {b0 L i : Nat} {xs : Nat → Int32} {D : va_G} {cA : Nat → ClassId} {H : Heap} {locs : List Loc} {ls : Array Slot} {μ ν : z_S} (C : l_C p s m meth c b0 L xs D cA) (hi : i + 6 ≤ L) (hL : L ≤ 3072) (hl : lv_has ls 4 (l_lv b0 s.heap.size i)) (hI : z_INV μ ν) (hW : z_Wd s.heap.size D cA (z_mm true μ ν) H) (hS0 : va_S (z_A s.heap.size) s.heap H locs)
    (next : ∀ (μ' ν' : z_S) (H' : Heap) (locs' : List Loc), z_INV μ' ν' → z_Wd s.heap.size D cA (z_mm true μ' ν') H' → va_S (z_A s.heap.size) s.heap H' locs' → l_W p l e s m below meth c b0 H' locs' 1056 ls []) : l_W p l e s m below meth c b0 H locs 911 ls [] := by
  obtain ⟨A, ok, hc, hm⟩ := hI
  obtain ⟨r, μ1, ν1, e1, e2, hI1⟩ := op_chance ok hc hm 70000 (Nat.le_refl _) (xs (i + 1))
  have hx := C.1.1
  have hb := C.1.2.1
  refine lv_aload_n (pc := 911) hx hb d_law_911 rfl (lv_at hl 1 rfl) ?_
  refine l_arg (pc := 912) (k := 1) C hS0 hl hi hL (by decide) (by decide) d_law_912 d_law_913 d_law_914 d_law_915 d_law_916 ?_
  refine l_callI (pc := 917) (o := 0) (x := r) (as := [.int (xs (i + 1))]) (st := []) C hW hS0 hl d_law_917 lkl_130 (t_X11_chance 70000 (xs (i + 1)) μ r μ1 e1 ν) rfl (show 0 < 334 by decide) (by decide) rfl (by decide) rfl (fun H1 locs1 hW1 hS1 => ?_)
  refine lv_aload_n (pc := 920) hx hb d_law_920 rfl (lv_at hl 2 rfl) ?_
  refine l_arg (pc := 921) (k := 1) C hS1 hl hi hL (by decide) (by decide) d_law_921 d_law_922 d_law_923 d_law_924 d_law_925 ?_
  refine l_callI (pc := 926) (o := 253) (x := r) (as := [.int (xs (i + 1))]) (st := [.int r]) C (l_swap hW1) hS1 hl d_law_926 lkl_133 (t_X12_chance 70000 (xs (i + 1)) ν r ν1 e2 μ1) rfl (show 253 < 334 by decide) (by decide) rfl (by show _ ≤ _; first | decide | exact Nat.le_of_ble_eq_true rfl) rfl (fun H2 locs2 hW2 hS2 => ?_)
  refine lv_icmp_eq (pc := 929) (x := r) (y := r) (tgt := 1056) hx hb d_law_929 (by decide) (fun _ => ?_) (fun h => absurd rfl h)
  exact next μ1 ν1 H2 locs2 hI1 (l_swap2 hW2) hS2
theorem lc_28 {p : Program} {l : Launch} {e : Env} {s : State} {m : MethodId} {below : List Frame} {meth : Method} {c : Code} {b0 L i : Nat} {xs : Nat → Int32} {D : va_G} {cA : Nat → ClassId} {H : Heap} {locs : List Loc} {ls : Array Slot} {μ ν : z_S} (C : l_C p s m meth c b0 L xs D cA) (hi : i + 6 ≤ L) (hL : L ≤ 3072) (hl : lv_has ls 4 (l_lv b0 s.heap.size i)) (hI : z_INV μ ν) (hW : z_Wd s.heap.size D cA (z_mm true μ ν) H) (hS0 : va_S (z_A s.heap.size) s.heap H locs)
    (next : ∀ (μ' ν' : z_S) (H' : Heap) (locs' : List Loc), z_INV μ' ν' → z_Wd s.heap.size D cA (z_mm true μ' ν') H' → va_S (z_A s.heap.size) s.heap H' locs' → l_W p l e s m below meth c b0 H' locs' 1056 ls []) : l_W p l e s m below meth c b0 H locs 934 ls [] := by
  obtain ⟨A, ok, hc, hm⟩ := hI
  obtain ⟨r, μ1, ν1, e1, e2, hI1⟩ := op_undo ok hc hm 40 (Nat.le_refl _)
  have hx := C.1.1
  have hb := C.1.2.1
  refine lv_aload_n (pc := 934) hx hb d_law_934 rfl (lv_at hl 1 rfl) ?_
  refine l_callI (pc := 935) (o := 0) (x := r) (as := []) (st := []) C hW hS0 hl d_law_935 lkl_134 (t_X11_undo 40  μ r μ1 e1 ν) rfl (show 0 < 334 by decide) (by decide) rfl (by decide) rfl (fun H1 locs1 hW1 hS1 => ?_)
  refine lv_aload_n (pc := 938) hx hb d_law_938 rfl (lv_at hl 2 rfl) ?_
  refine l_callI (pc := 939) (o := 253) (x := r) (as := []) (st := [.int r]) C (l_swap hW1) hS1 hl d_law_939 lkl_138 (t_X12_undo 40  ν r ν1 e2 μ1) rfl (show 253 < 334 by decide) (by decide) rfl (by show _ ≤ _; first | decide | exact Nat.le_of_ble_eq_true rfl) rfl (fun H2 locs2 hW2 hS2 => ?_)
  refine lv_icmp_eq (pc := 942) (x := r) (y := r) (tgt := 1056) hx hb d_law_942 (by decide) (fun _ => ?_) (fun h => absurd rfl h)
  exact next μ1 ν1 H2 locs2 hI1 (l_swap2 hW2) hS2
theorem lc_29 {p : Program} {l : Launch} {e : Env} {s : State} {m : MethodId} {below : List Frame} {meth : Method} {c : Code} {b0 L i : Nat} {xs : Nat → Int32} {D : va_G} {cA : Nat → ClassId} {H : Heap} {locs : List Loc} {ls : Array Slot} {μ ν : z_S} (C : l_C p s m meth c b0 L xs D cA) (hi : i + 6 ≤ L) (hL : L ≤ 3072) (hl : lv_has ls 4 (l_lv b0 s.heap.size i)) (hI : z_INV μ ν) (hW : z_Wd s.heap.size D cA (z_mm true μ ν) H) (hS0 : va_S (z_A s.heap.size) s.heap H locs)
    (next : ∀ (μ' ν' : z_S) (H' : Heap) (locs' : List Loc), z_INV μ' ν' → z_Wd s.heap.size D cA (z_mm true μ' ν') H' → va_S (z_A s.heap.size) s.heap H' locs' → l_W p l e s m below meth c b0 H' locs' 1056 ls []) : l_W p l e s m below meth c b0 H locs 947 ls [] := by
  obtain ⟨A, ok, hc, hm⟩ := hI
  obtain ⟨r, μ1, ν1, e1, e2, hI1⟩ := op_seed ok hc hm 1700 (xs (i + 1))
  have hx := C.1.1
  have hb := C.1.2.1
  refine lv_aload_n (pc := 947) hx hb d_law_947 rfl (lv_at hl 1 rfl) ?_
  refine l_arg (pc := 948) (k := 1) C hS0 hl hi hL (by decide) (by decide) d_law_948 d_law_949 d_law_950 d_law_951 d_law_952 ?_
  refine l_callI (pc := 953) (o := 0) (x := r) (as := [.int (xs (i + 1))]) (st := []) C hW hS0 hl d_law_953 lkl_139 (t_X11_seed 1700 (xs (i + 1)) μ r μ1 e1 ν) rfl (show 0 < 334 by decide) (by decide) rfl (by decide) rfl (fun H1 locs1 hW1 hS1 => ?_)
  refine lv_aload_n (pc := 956) hx hb d_law_956 rfl (lv_at hl 2 rfl) ?_
  refine l_arg (pc := 957) (k := 1) C hS1 hl hi hL (by decide) (by decide) d_law_957 d_law_958 d_law_959 d_law_960 d_law_961 ?_
  refine l_callI (pc := 962) (o := 253) (x := r) (as := [.int (xs (i + 1))]) (st := [.int r]) C (l_swap hW1) hS1 hl d_law_962 lkl_142 (t_X12_seed 1700 (xs (i + 1)) ν r ν1 e2 μ1) rfl (show 253 < 334 by decide) (by decide) rfl (by show _ ≤ _; first | decide | exact Nat.le_of_ble_eq_true rfl) rfl (fun H2 locs2 hW2 hS2 => ?_)
  refine lv_icmp_eq (pc := 965) (x := r) (y := r) (tgt := 1056) hx hb d_law_965 (by decide) (fun _ => ?_) (fun h => absurd rfl h)
  exact next μ1 ν1 H2 locs2 hI1 (l_swap2 hW2) hS2
theorem lc_30 {p : Program} {l : Launch} {e : Env} {s : State} {m : MethodId} {below : List Frame} {meth : Method} {c : Code} {b0 L i : Nat} {xs : Nat → Int32} {D : va_G} {cA : Nat → ClassId} {H : Heap} {locs : List Loc} {ls : Array Slot} {μ ν : z_S} (C : l_C p s m meth c b0 L xs D cA) (hi : i + 6 ≤ L) (hL : L ≤ 3072) (hl : lv_has ls 4 (l_lv b0 s.heap.size i)) (hI : z_INV μ ν) (hW : z_Wd s.heap.size D cA (z_mm true μ ν) H) (hS0 : va_S (z_A s.heap.size) s.heap H locs)
    (next : ∀ (μ' ν' : z_S) (H' : Heap) (locs' : List Loc), z_INV μ' ν' → z_Wd s.heap.size D cA (z_mm true μ' ν') H' → va_S (z_A s.heap.size) s.heap H' locs' → l_W p l e s m below meth c b0 H' locs' 1056 ls []) : l_W p l e s m below meth c b0 H locs 970 ls [] := by
  obtain ⟨A, ok, hc, hm⟩ := hI
  obtain ⟨r, μ1, ν1, e1, e2, hI1⟩ := op_ask ok hc hm 1700 (Nat.le_refl _)
  have hx := C.1.1
  have hb := C.1.2.1
  refine lv_aload_n (pc := 970) hx hb d_law_970 rfl (lv_at hl 1 rfl) ?_
  refine l_callJ (pc := 971) (o := 0) (x := r) (as := []) (st := []) C hW hS0 hl d_law_971 lkl_143 (t_X11_ask 1700  μ r μ1 e1 ν) rfl (show 0 < 334 by decide) (by decide) rfl (by decide) rfl (fun H1 locs1 hW1 hS1 => ?_)
  refine lv_aload_n (pc := 974) hx hb d_law_974 rfl (lv_at hl 2 rfl) ?_
  refine l_callJ (pc := 975) (o := 253) (x := r) (as := []) (st := [.long r]) C (l_swap hW1) hS1 hl d_law_975 lkl_146 (t_X12_ask 1700  ν r ν1 e2 μ1) rfl (show 253 < 334 by decide) (by decide) rfl (by show _ ≤ _; first | decide | exact Nat.le_of_ble_eq_true rfl) rfl (fun H2 locs2 hW2 hS2 => ?_)
  refine W.lcmp (pc := 978) hx hb d_law_978 ?_
  refine lv_if_eq (pc := 979) (tgt := 1056) hx hb d_law_979 (by decide) (fun _ => ?_) (fun h => absurd (l_cmp r) h)
  exact next μ1 ν1 H2 locs2 hI1 (l_swap2 hW2) hS2
theorem lc_31 {p : Program} {l : Launch} {e : Env} {s : State} {m : MethodId} {below : List Frame} {meth : Method} {c : Code} {b0 L i : Nat} {xs : Nat → Int32} {D : va_G} {cA : Nat → ClassId} {H : Heap} {locs : List Loc} {ls : Array Slot} {μ ν : z_S} (C : l_C p s m meth c b0 L xs D cA) (hi : i + 6 ≤ L) (hL : L ≤ 3072) (hl : lv_has ls 4 (l_lv b0 s.heap.size i)) (hI : z_INV μ ν) (hW : z_Wd s.heap.size D cA (z_mm true μ ν) H) (hS0 : va_S (z_A s.heap.size) s.heap H locs)
    (next : ∀ (μ' ν' : z_S) (H' : Heap) (locs' : List Loc), z_INV μ' ν' → z_Wd s.heap.size D cA (z_mm true μ' ν') H' → va_S (z_A s.heap.size) s.heap H' locs' → l_W p l e s m below meth c b0 H' locs' 1056 ls []) : l_W p l e s m below meth c b0 H locs 984 ls [] := by
  obtain ⟨A, ok, hc, hm⟩ := hI
  obtain ⟨r, μ1, ν1, e1, e2, hI1⟩ := op_image ok hc hm 60 (Nat.le_refl _)
  have hx := C.1.1
  have hb := C.1.2.1
  refine lv_aload_n (pc := 984) hx hb d_law_984 rfl (lv_at hl 1 rfl) ?_
  refine l_callI (pc := 985) (o := 0) (x := r) (as := []) (st := []) C hW hS0 hl d_law_985 lkl_147 (t_X11_image 60  μ r μ1 e1 ν) rfl (show 0 < 334 by decide) (by decide) rfl (by decide) rfl (fun H1 locs1 hW1 hS1 => ?_)
  refine lv_aload_n (pc := 988) hx hb d_law_988 rfl (lv_at hl 2 rfl) ?_
  refine l_callI (pc := 989) (o := 253) (x := r) (as := []) (st := [.int r]) C (l_swap hW1) hS1 hl d_law_989 lkl_150 (t_X12_image 60  ν r ν1 e2 μ1) rfl (show 253 < 334 by decide) (by decide) rfl (by show _ ≤ _; first | decide | exact Nat.le_of_ble_eq_true rfl) rfl (fun H2 locs2 hW2 hS2 => ?_)
  refine lv_icmp_eq (pc := 992) (x := r) (y := r) (tgt := 1056) hx hb d_law_992 (by decide) (fun _ => ?_) (fun h => absurd rfl h)
  exact next μ1 ν1 H2 locs2 hI1 (l_swap2 hW2) hS2
theorem lc_32 {p : Program} {l : Launch} {e : Env} {s : State} {m : MethodId} {below : List Frame} {meth : Method} {c : Code} {b0 L i : Nat} {xs : Nat → Int32} {D : va_G} {cA : Nat → ClassId} {H : Heap} {locs : List Loc} {ls : Array Slot} {μ ν : z_S} (C : l_C p s m meth c b0 L xs D cA) (hi : i + 6 ≤ L) (hL : L ≤ 3072) (hl : lv_has ls 4 (l_lv b0 s.heap.size i)) (hI : z_INV μ ν) (hW : z_Wd s.heap.size D cA (z_mm true μ ν) H) (hS0 : va_S (z_A s.heap.size) s.heap H locs)
    (next : ∀ (μ' ν' : z_S) (H' : Heap) (locs' : List Loc), z_INV μ' ν' → z_Wd s.heap.size D cA (z_mm true μ' ν') H' → va_S (z_A s.heap.size) s.heap H' locs' → l_W p l e s m below meth c b0 H' locs' 1056 ls []) : l_W p l e s m below meth c b0 H locs 997 ls [] := by
  obtain ⟨A, ok, hc, hm⟩ := hI
  obtain ⟨r, μ1, ν1, e1, e2, hI1⟩ := op_octet ok hc hm 1700 (xs (i + 1))
  have hx := C.1.1
  have hb := C.1.2.1
  refine lv_aload_n (pc := 997) hx hb d_law_997 rfl (lv_at hl 1 rfl) ?_
  refine l_arg (pc := 998) (k := 1) C hS0 hl hi hL (by decide) (by decide) d_law_998 d_law_999 d_law_1000 d_law_1001 d_law_1002 ?_
  refine l_callI (pc := 1003) (o := 0) (x := r) (as := [.int (xs (i + 1))]) (st := []) C hW hS0 hl d_law_1003 lkl_151 (t_X11_octet 1700 (xs (i + 1)) μ r μ1 e1 ν) rfl (show 0 < 334 by decide) (by decide) rfl (by decide) rfl (fun H1 locs1 hW1 hS1 => ?_)
  refine lv_aload_n (pc := 1006) hx hb d_law_1006 rfl (lv_at hl 2 rfl) ?_
  refine l_arg (pc := 1007) (k := 1) C hS1 hl hi hL (by decide) (by decide) d_law_1007 d_law_1008 d_law_1009 d_law_1010 d_law_1011 ?_
  refine l_callI (pc := 1012) (o := 253) (x := r) (as := [.int (xs (i + 1))]) (st := [.int r]) C (l_swap hW1) hS1 hl d_law_1012 lkl_154 (t_X12_octet 1700 (xs (i + 1)) ν r ν1 e2 μ1) rfl (show 253 < 334 by decide) (by decide) rfl (by show _ ≤ _; first | decide | exact Nat.le_of_ble_eq_true rfl) rfl (fun H2 locs2 hW2 hS2 => ?_)
  refine lv_icmp_eq (pc := 1015) (x := r) (y := r) (tgt := 1056) hx hb d_law_1015 (by decide) (fun _ => ?_) (fun h => absurd rfl h)
  exact next μ1 ν1 H2 locs2 hI1 (l_swap2 hW2) hS2
theorem lc_33 {p : Program} {l : Launch} {e : Env} {s : State} {m : MethodId} {below : List Frame} {meth : Method} {c : Code} {b0 L i : Nat} {xs : Nat → Int32} {D : va_G} {cA : Nat → ClassId} {H : Heap} {locs : List Loc} {ls : Array Slot} {μ ν : z_S} (C : l_C p s m meth c b0 L xs D cA) (hi : i + 6 ≤ L) (hL : L ≤ 3072) (hl : lv_has ls 4 (l_lv b0 s.heap.size i)) (hI : z_INV μ ν) (hW : z_Wd s.heap.size D cA (z_mm true μ ν) H) (hS0 : va_S (z_A s.heap.size) s.heap H locs)
    (next : ∀ (μ' ν' : z_S) (H' : Heap) (locs' : List Loc), z_INV μ' ν' → z_Wd s.heap.size D cA (z_mm true μ' ν') H' → va_S (z_A s.heap.size) s.heap H' locs' → l_W p l e s m below meth c b0 H' locs' 1056 ls []) : l_W p l e s m below meth c b0 H locs 1020 ls [] := by
  obtain ⟨A, ok, hc, hm⟩ := hI
  obtain ⟨r, μ1, ν1, e1, e2, hI1⟩ := op_on ok hc hm 60 (Nat.le_refl _)
  have hx := C.1.1
  have hb := C.1.2.1
  refine lv_aload_n (pc := 1020) hx hb d_law_1020 rfl (lv_at hl 1 rfl) ?_
  refine l_callI (pc := 1021) (o := 0) (x := r) (as := []) (st := []) C hW hS0 hl d_law_1021 lkl_155 (t_X11_on 60  μ r μ1 e1 ν) rfl (show 0 < 334 by decide) (by decide) rfl (by decide) rfl (fun H1 locs1 hW1 hS1 => ?_)
  refine lv_aload_n (pc := 1024) hx hb d_law_1024 rfl (lv_at hl 2 rfl) ?_
  refine l_callI (pc := 1025) (o := 253) (x := r) (as := []) (st := [.int r]) C (l_swap hW1) hS1 hl d_law_1025 lkl_158 (t_X12_on 60  ν r ν1 e2 μ1) rfl (show 253 < 334 by decide) (by decide) rfl (by show _ ≤ _; first | decide | exact Nat.le_of_ble_eq_true rfl) rfl (fun H2 locs2 hW2 hS2 => ?_)
  refine lv_icmp_eq (pc := 1028) (x := r) (y := r) (tgt := 1056) hx hb d_law_1028 (by decide) (fun _ => ?_) (fun h => absurd rfl h)
  exact next μ1 ν1 H2 locs2 hI1 (l_swap2 hW2) hS2
theorem lc_34 {p : Program} {l : Launch} {e : Env} {s : State} {m : MethodId} {below : List Frame} {meth : Method} {c : Code} {b0 L i : Nat} {xs : Nat → Int32} {D : va_G} {cA : Nat → ClassId} {H : Heap} {locs : List Loc} {ls : Array Slot} {μ ν : z_S} (C : l_C p s m meth c b0 L xs D cA) (hi : i + 6 ≤ L) (hL : L ≤ 3072) (hl : lv_has ls 4 (l_lv b0 s.heap.size i)) (hI : z_INV μ ν) (hW : z_Wd s.heap.size D cA (z_mm true μ ν) H) (hS0 : va_S (z_A s.heap.size) s.heap H locs)
    (next : ∀ (μ' ν' : z_S) (H' : Heap) (locs' : List Loc), z_INV μ' ν' → z_Wd s.heap.size D cA (z_mm true μ' ν') H' → va_S (z_A s.heap.size) s.heap H' locs' → l_W p l e s m below meth c b0 H' locs' 1056 ls []) : l_W p l e s m below meth c b0 H locs 1033 ls [] := by
  obtain ⟨A, ok, hc, hm⟩ := hI
  obtain ⟨r, μ1, ν1, e1, e2, hI1⟩ := op_status ok hc hm 1700 (xs (i + 1))
  have hx := C.1.1
  have hb := C.1.2.1
  refine lv_aload_n (pc := 1033) hx hb d_law_1033 rfl (lv_at hl 1 rfl) ?_
  refine l_arg (pc := 1034) (k := 1) C hS0 hl hi hL (by decide) (by decide) d_law_1034 d_law_1035 d_law_1036 d_law_1037 d_law_1038 ?_
  refine l_callI (pc := 1039) (o := 0) (x := r) (as := [.int (xs (i + 1))]) (st := []) C hW hS0 hl d_law_1039 lkl_159 (t_X11_status 1700 (xs (i + 1)) μ r μ1 e1 ν) rfl (show 0 < 334 by decide) (by decide) rfl (by decide) rfl (fun H1 locs1 hW1 hS1 => ?_)
  refine lv_aload_n (pc := 1042) hx hb d_law_1042 rfl (lv_at hl 2 rfl) ?_
  refine l_arg (pc := 1043) (k := 1) C hS1 hl hi hL (by decide) (by decide) d_law_1043 d_law_1044 d_law_1045 d_law_1046 d_law_1047 ?_
  refine l_callI (pc := 1048) (o := 253) (x := r) (as := [.int (xs (i + 1))]) (st := [.int r]) C (l_swap hW1) hS1 hl d_law_1048 lkl_162 (t_X12_status 1700 (xs (i + 1)) ν r ν1 e2 μ1) rfl (show 253 < 334 by decide) (by decide) rfl (by show _ ≤ _; first | decide | exact Nat.le_of_ble_eq_true rfl) rfl (fun H2 locs2 hW2 hS2 => ?_)
  refine lv_icmp_eq (pc := 1051) (x := r) (y := r) (tgt := 1056) hx hb d_law_1051 (by decide) (fun _ => ?_) (fun h => absurd rfl h)
  exact next μ1 ν1 H2 locs2 hI1 (l_swap2 hW2) hS2
/-- which call it is -/
theorem l_switch {p : Program} {l : Launch} {e : Env} {s : State} {m : MethodId} {below : List Frame} {meth : Method} {c : Code} {b0 L i : Nat} {xs : Nat → Int32} {D : va_G} {cA : Nat → ClassId} {H : Heap} {locs : List Loc} {ls : Array Slot} {μ ν : z_S} (C : l_C p s m meth c b0 L xs D cA) (hi : i + 6 ≤ L) (hL : L ≤ 3072) (hl : lv_has ls 4 (l_lv b0 s.heap.size i)) (hI : z_INV μ ν) (hW : z_Wd s.heap.size D cA (z_mm true μ ν) H) (hS : va_S (z_A s.heap.size) s.heap H locs)
    (next : ∀ (μ' ν' : z_S) (H' : Heap) (locs' : List Loc), z_INV μ' ν' → z_Wd s.heap.size D cA (z_mm true μ' ν') H' → va_S (z_A s.heap.size) s.heap H' locs' → l_W p l e s m below meth c b0 H' locs' 1056 ls []) : ∀ k : Nat, k < 64 → l_W p l e s m below meth c b0 H locs 33 ls [.int (nI k)]
  | 0, _ => lv_tableIn (pc := 33) (off := 155) (tgt := 188) C.1.1 C.1.2.1 d_law_33 (by decide) (by decide) (by decide +kernel) (by decide) (lc_0 C hi hL hl hI hW hS next)
  | 1, _ => lv_tableIn (pc := 33) (off := 218) (tgt := 251) C.1.1 C.1.2.1 d_law_33 (by decide) (by decide) (by decide +kernel) (by decide) (lc_1 C hi hL hl hI hW hS next)
  | 2, _ => lv_tableIn (pc := 33) (off := 241) (tgt := 274) C.1.1 C.1.2.1 d_law_33 (by decide) (by decide) (by decide +kernel) (by decide) (lc_2 C hi hL hl hI hW hS next)
  | 3, _ => lv_tableIn (pc := 33) (off := 254) (tgt := 287) C.1.1 C.1.2.1 d_law_33 (by decide) (by decide) (by decide +kernel) (by decide) (lc_3 C hi hL hl hI hW hS next)
  | 4, _ => lv_tableIn (pc := 33) (off := 277) (tgt := 310) C.1.1 C.1.2.1 d_law_33 (by decide) (by decide) (by decide +kernel) (by decide) (lc_4 C hi hL hl hI hW hS next)
  | 5, _ => lv_tableIn (pc := 33) (off := 300) (tgt := 333) C.1.1 C.1.2.1 d_law_33 (by decide) (by decide) (by decide +kernel) (by decide) (lc_5 C hi hL hl hI hW hS next)
  | 6, _ => lv_tableIn (pc := 33) (off := 343) (tgt := 376) C.1.1 C.1.2.1 d_law_33 (by decide) (by decide) (by decide +kernel) (by decide) (lc_6 C hi hL hl hI hW hS next)
  | 7, _ => lv_tableIn (pc := 33) (off := 376) (tgt := 409) C.1.1 C.1.2.1 d_law_33 (by decide) (by decide) (by decide +kernel) (by decide) (lc_7 C hi hL hl hI hW hS next)
  | 8, _ => lv_tableIn (pc := 33) (off := 409) (tgt := 442) C.1.1 C.1.2.1 d_law_33 (by decide) (by decide) (by decide +kernel) (by decide) (lc_8 C hi hL hl hI hW hS next)
  | 9, _ => lv_tableIn (pc := 33) (off := 442) (tgt := 475) C.1.1 C.1.2.1 d_law_33 (by decide) (by decide) (by decide +kernel) (by decide) (lc_9 C hi hL hl hI hW hS next)
  | 10, _ => lv_tableIn (pc := 33) (off := 475) (tgt := 508) C.1.1 C.1.2.1 d_law_33 (by decide) (by decide) (by decide +kernel) (by decide) (lc_10 C hi hL hl hI hW hS next)
  | 11, _ => lv_tableIn (pc := 33) (off := 509) (tgt := 542) C.1.1 C.1.2.1 d_law_33 (by decide) (by decide) (by decide +kernel) (by decide) (lc_11 C hi hL hl hI hW hS next)
  | 12, _ => lv_tableIn (pc := 33) (off := 542) (tgt := 575) C.1.1 C.1.2.1 d_law_33 (by decide) (by decide) (by decide +kernel) (by decide) (lc_12 C hi hL hl hI hW hS next)
  | 13, _ => lv_tableIn (pc := 33) (off := 565) (tgt := 598) C.1.1 C.1.2.1 d_law_33 (by decide) (by decide) (by decide +kernel) (by decide) (lc_13 C hi hL hl hI hW hS next)
  | 14, _ => lv_tableIn (pc := 33) (off := 579) (tgt := 612) C.1.1 C.1.2.1 d_law_33 (by decide) (by decide) (by decide +kernel) (by decide) (lc_14 C hi hL hl hI hW hS next)
  | 15, _ => lv_tableIn (pc := 33) (off := 602) (tgt := 635) C.1.1 C.1.2.1 d_law_33 (by decide) (by decide) (by decide +kernel) (by decide) (lc_15 C hi hL hl hI hW hS next)
  | 16, _ => lv_tableIn (pc := 33) (off := 615) (tgt := 648) C.1.1 C.1.2.1 d_law_33 (by decide) (by decide) (by decide +kernel) (by decide) (lc_16 C hi hL hl hI hW hS next)
  | 17, _ => lv_tableIn (pc := 33) (off := 638) (tgt := 671) C.1.1 C.1.2.1 d_law_33 (by decide) (by decide) (by decide +kernel) (by decide) (lc_17 C hi hL hl hI hW hS next)
  | 18, _ => lv_tableIn (pc := 33) (off := 661) (tgt := 694) C.1.1 C.1.2.1 d_law_33 (by decide) (by decide) (by decide +kernel) (by decide) (lc_18 C hi hL hl hI hW hS next)
  | 19, _ => lv_tableIn (pc := 33) (off := 684) (tgt := 717) C.1.1 C.1.2.1 d_law_33 (by decide) (by decide) (by decide +kernel) (by decide) (lc_19 C hi hL hl hI hW hS next)
  | 20, _ => lv_tableIn (pc := 33) (off := 707) (tgt := 740) C.1.1 C.1.2.1 d_law_33 (by decide) (by decide) (by decide +kernel) (by decide) (lc_20 C hi hL hl hI hW hS next)
  | 21, _ => lv_tableIn (pc := 33) (off := 720) (tgt := 753) C.1.1 C.1.2.1 d_law_33 (by decide) (by decide) (by decide +kernel) (by decide) (lc_21 C hi hL hl hI hW hS next)
  | 22, _ => lv_tableIn (pc := 33) (off := 733) (tgt := 766) C.1.1 C.1.2.1 d_law_33 (by decide) (by decide) (by decide +kernel) (by decide) (lc_22 C hi hL hl hI hW hS next)
  | 23, _ => lv_tableIn (pc := 33) (off := 756) (tgt := 789) C.1.1 C.1.2.1 d_law_33 (by decide) (by decide) (by decide +kernel) (by decide) (lc_23 C hi hL hl hI hW hS next)
  | 24, _ => lv_tableIn (pc := 33) (off := 789) (tgt := 822) C.1.1 C.1.2.1 d_law_33 (by decide) (by decide) (by decide +kernel) (by decide) (lc_24 C hi hL hl hI hW hS next)
  | 25, _ => lv_tableIn (pc := 33) (off := 822) (tgt := 855) C.1.1 C.1.2.1 d_law_33 (by decide) (by decide) (by decide +kernel) (by decide) (lc_25 C hi hL hl hI hW hS next)
  | 26, _ => lv_tableIn (pc := 33) (off := 855) (tgt := 888) C.1.1 C.1.2.1 d_law_33 (by decide) (by decide) (by decide +kernel) (by decide) (lc_26 C hi hL hl hI hW hS next)
  | 27, _ => lv_tableIn (pc := 33) (off := 878) (tgt := 911) C.1.1 C.1.2.1 d_law_33 (by decide) (by decide) (by decide +kernel) (by decide) (lc_27 C hi hL hl hI hW hS next)
  | 28, _ => lv_tableIn (pc := 33) (off := 901) (tgt := 934) C.1.1 C.1.2.1 d_law_33 (by decide) (by decide) (by decide +kernel) (by decide) (lc_28 C hi hL hl hI hW hS next)
  | 29, _ => lv_tableIn (pc := 33) (off := 914) (tgt := 947) C.1.1 C.1.2.1 d_law_33 (by decide) (by decide) (by decide +kernel) (by decide) (lc_29 C hi hL hl hI hW hS next)
  | 30, _ => lv_tableIn (pc := 33) (off := 937) (tgt := 970) C.1.1 C.1.2.1 d_law_33 (by decide) (by decide) (by decide +kernel) (by decide) (lc_30 C hi hL hl hI hW hS next)
  | 31, _ => lv_tableIn (pc := 33) (off := 951) (tgt := 984) C.1.1 C.1.2.1 d_law_33 (by decide) (by decide) (by decide +kernel) (by decide) (lc_31 C hi hL hl hI hW hS next)
  | 32, _ => lv_tableIn (pc := 33) (off := 964) (tgt := 997) C.1.1 C.1.2.1 d_law_33 (by decide) (by decide) (by decide +kernel) (by decide) (lc_32 C hi hL hl hI hW hS next)
  | 33, _ => lv_tableIn (pc := 33) (off := 987) (tgt := 1020) C.1.1 C.1.2.1 d_law_33 (by decide) (by decide) (by decide +kernel) (by decide) (lc_33 C hi hL hl hI hW hS next)
  | 34, _ => lv_tableIn (pc := 33) (off := 1000) (tgt := 1033) C.1.1 C.1.2.1 d_law_33 (by decide) (by decide) (by decide +kernel) (by decide) (lc_34 C hi hL hl hI hW hS next)
  | k + 35, h => lv_tableOut (pc := 33) (tgt := 1056) C.1.1 C.1.2.1 d_law_33 (Or.inr (by rw [nI_toInt (by omega)]; omega)) (by decide) (next μ ν H locs hI hW hS)
