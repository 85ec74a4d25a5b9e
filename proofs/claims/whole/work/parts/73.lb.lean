/-! the law's cases with throws -/
set_option maxHeartbeats 1000000 in
set_option maxRecDepth 100000 in
theorem law_tell {p : Program} {l : Launch} {e : Env} {s : State} {m : MethodId} {below : List Frame} {meth : Method} {c : Code} {b L : Nat} {xs : Nat → Int32} {D : va_G} {y : Nat → ClassId} {adE adK adV : Nat → Nat} {tkA swA : Nat} {sa : Nat → Nat} {i cells slots : Nat} {Q : State → Prop} (htr : l.stackTraces = false) (C1 : LCX p s m meth c b L xs D y adE adK adV tkA swA sa) (hi : i + 6 ≤ L) (hL : L ≤ 3072) (hcs : cells + 1 ≤ 601024 ∧ slots + 6 ≤ 7293034) (K : LKK p l e s m below meth c b i D y adE cells slots Q) {ce cr : List va_E} {o : Nat → Int64} {H : Heap} {locs : List Loc} {ls : Array Slot} (h : CRW (adC s.heap.size) adE y (nAt s.heap.size 124) ce cr) (hw : LWo D s.heap.size (y 3) ce cr o s H locs) (hl : lv_has ls 7 [(0, .ref b), (1, .ref (adC s.heap.size 0)), (2, .ref (nAt s.heap.size 124 0)), (3, .ref (nA s.heap.size 143)), (4, .int (nI i))]) : W p l e room_1 s m #[Value.ref b] below meth c H locs cells slots Q (F0 m 234 ls []) := by
  obtain ⟨hx, hb, hml, hown, hts, hX, hbl, hK, hst, hsr⟩ := C1
  have hbA : ¬ oldS s b := Nat.not_le.mpr hbl
  have hc0 : cells ≤ room_1.cells ∧ slots ≤ room_1.slots := ⟨show cells ≤ 601024 by omega, show slots ≤ 7293034 by omega⟩
  have hc1 : cells + 1 ≤ room_1.cells ∧ slots + 6 ≤ room_1.slots := hcs
  refine lv_aload_n hx hb dL_law_234 rfl (lv_at hl 1 rfl) ?_
  refine lv_aload_n hx hb dL_law_235 rfl (lv_at hl 0 rfl) ?_
  refine lv_iload hx hb dL_law_236 (lv_at hl 4 rfl) ?_
  refine lv_iconst (v := 1) hx hb dL_law_238 (by decide) ?_
  refine lv_iadd hx hb dL_law_239 ?_
  refine va_sld hx hb hX hbl hbA hw.2.2.2 (show vp_in (nI i + 1) L from sX_in hi hL 1 (by omega)) dL_law_240 ?_
  refine lv_aload_n hx hb dL_law_241 rfl (lv_at hl 3 rfl) ?_
  obtain ⟨k, v, o', ce', cr', k1, k2, k3, hk0, h'⟩ := lc_tell (D := D) (adK := adK) (adV := adV) (tkA := tkA) (swA := swA) htr (sa := sa) (ao := nA s.heap.size 143) o h ((sX xs i 1))
  refine L_S (r := (k, ce', o')) (As := [.ref (adC s.heap.size 0), .int (sX xs i 1), .ref (nA s.heap.size 143)]) (rest := []) ⟨hx, hb, hml, hown, hts⟩ k1 (vx_cwSW 3 hts gL_law_L_tell rfl rfl rfl (by decide +kernel) ⟨Nat.le_of_ble_eq_true rfl, Nat.le_of_ble_eq_true rfl⟩) STL_ok hst hK (CRW_c h).1 (CRW_c h).2.2.1 hw rfl hl.1 rfl (Nat.le_of_ble_eq_true rfl) dL_law_242 hcs (fun H locs hw => ?_)
  refine lv_istore (lv' := [(5, .int k), (0, .ref b), (1, .ref (adC s.heap.size 0)), (2, .ref (nAt s.heap.size 124 0)), (3, .ref (nA s.heap.size 143)), (4, .int (nI i))]) hx hb dL_law_245 hl (by decide) rfl (fun ls hl => ?_)
  refine lv_aload_n hx hb dL_law_247 rfl (lv_at hl 3 rfl) ?_
  refine lv_aload_n hx hb dL_law_248 rfl (lv_at hl 1 rfl) ?_
  refine lv_iload hx hb dL_law_249 (lv_at hl 5 rfl) ?_
  refine lv_iconst (v := 1) hx hb dL_law_251 (by decide) ?_
  refine lv_iadd hx hb dL_law_252 ?_
  refine va_sld hx hb hX hbl hbA hw.2.2.2 (show vp_in (nI i + 1) L from sX_in hi hL 1 (by omega)) dL_law_253 ?_
  refine L_R (As := [.int (sX xs i 1)]) (rest := []) ⟨hx, hb, hml, hown, hts⟩ k2 (cwV 1 hts gL_law_X12_tell rfl rfl rfl (by decide +kernel) ⟨Nat.le_of_ble_eq_true rfl, Nat.le_of_ble_eq_true rfl⟩) STR_ok hsr hK (CRW_c h').1 (CRW_c h).2.2.1 (CRW_c h).2.2.2 hw rfl hl.1 rfl (Nat.le_of_ble_eq_true rfl) dL_law_254 hc1 (fun H locs hw => ?_)
  refine lv_istore (lv' := [(6, .int v), (5, .int k), (0, .ref b), (1, .ref (adC s.heap.size 0)), (2, .ref (nAt s.heap.size 124 0)), (3, .ref (nA s.heap.size 143)), (4, .int (nI i))]) hx hb dL_law_257 hl (by decide) rfl (fun ls hl => ?_)
  refine lv_aload_n hx hb dL_law_259 rfl (lv_at hl 4 rfl) ?_
  refine L_R (As := []) (rest := []) ⟨hx, hb, hml, hown, hts⟩ k3 (cwV 0 hts gL_law_X12_thrown rfl rfl rfl (by decide +kernel) ⟨Nat.le_of_ble_eq_true rfl, Nat.le_of_ble_eq_true rfl⟩) STR_ok hsr hK (CRW_c h').1 (CRW_c h').2.2.1 (CRW_c h').2.2.2 hw rfl hl.1 rfl (Nat.le_of_ble_eq_true rfl) dL_law_260 hc1 (fun H locs hw => ?_)
  refine lv_iload hx hb dL_law_263 (lv_at hl 1 rfl) ?_
  refine lv_icmp_eq (tgt := 270) hx hb dL_law_265 (by decide) (fun _ => ?_) (fun c1 => absurd rfl c1)
  refine lv_iload hx hb dL_law_270 (lv_at hl 1 rfl) ?_
  refine lv_if_ne (tgt := 287) hx hb dL_law_272 (by decide) (fun _ => ?_) (fun ck => ?_)
  · refine lv_goto (tgt := 910) hx hb dL_law_287 (by decide) ?_
    exact K ce' cr' o' H locs ls h' hw (lv_sub hl [2, 3, 4, 5, 6] rfl)
  · refine lv_aload_n hx hb dL_law_275 rfl (lv_at hl 5 rfl) ?_
    refine lv_iconst (v := 0) hx hb dL_law_276 (by decide) ?_
    refine va_lald hx hb hK hw.2.2.1 0 3 rfl rfl (show vp_in (nI 0) 1 from vp_in_nI (by omega) (by omega)) dL_law_277 ?_
    refine lv_iload hx hb dL_law_278 (lv_at hl 0 rfl) ?_
    refine lv_i2l hx hb dL_law_280 rfl ?_
    refine W.lcmp hx hb dL_law_281 ?_
    refine lv_if_eq (tgt := 287) hx hb dL_law_282 (by decide) (fun _ => ?_) (fun c1 => (c1 (show lg_cmp (o' 0) v.toInt64 = 0 by rw [hk0 ck]; simp [lg_cmp])).elim)
    refine lv_goto (tgt := 910) hx hb dL_law_287 (by decide) ?_
    exact K ce' cr' o' H locs ls h' hw (lv_sub hl [2, 3, 4, 5, 6] rfl)
set_option maxHeartbeats 1000000 in
set_option maxRecDepth 100000 in
theorem law_saying {p : Program} {l : Launch} {e : Env} {s : State} {m : MethodId} {below : List Frame} {meth : Method} {c : Code} {b L : Nat} {xs : Nat → Int32} {D : va_G} {y : Nat → ClassId} {adE adK adV : Nat → Nat} {tkA swA : Nat} {sa : Nat → Nat} {i cells slots : Nat} {Q : State → Prop} (htr : l.stackTraces = false) (C1 : LCX p s m meth c b L xs D y adE adK adV tkA swA sa) (hi : i + 6 ≤ L) (hL : L ≤ 3072) (hcs : cells + 1 ≤ 601024 ∧ slots + 6 ≤ 7293034) (K : LKK p l e s m below meth c b i D y adE cells slots Q) {ce cr : List va_E} {o : Nat → Int64} {H : Heap} {locs : List Loc} {ls : Array Slot} (h : CRW (adC s.heap.size) adE y (nAt s.heap.size 124) ce cr) (hw : LWo D s.heap.size (y 3) ce cr o s H locs) (hl : lv_has ls 7 [(0, .ref b), (1, .ref (adC s.heap.size 0)), (2, .ref (nAt s.heap.size 124 0)), (3, .ref (nA s.heap.size 143)), (4, .int (nI i))]) : W p l e room_1 s m #[Value.ref b] below meth c H locs cells slots Q (F0 m 328 ls []) := by
  obtain ⟨hx, hb, hml, hown, hts, hX, hbl, hK, hst, hsr⟩ := C1
  have hbA : ¬ oldS s b := Nat.not_le.mpr hbl
  have hc0 : cells ≤ room_1.cells ∧ slots ≤ room_1.slots := ⟨show cells ≤ 601024 by omega, show slots ≤ 7293034 by omega⟩
  have hc1 : cells + 1 ≤ room_1.cells ∧ slots + 6 ≤ room_1.slots := hcs
  refine lv_aload_n hx hb dL_law_328 rfl (lv_at hl 1 rfl) ?_
  refine lv_aload_n hx hb dL_law_329 rfl (lv_at hl 0 rfl) ?_
  refine lv_iload hx hb dL_law_330 (lv_at hl 4 rfl) ?_
  refine lv_iconst (v := 1) hx hb dL_law_332 (by decide) ?_
  refine lv_iadd hx hb dL_law_333 ?_
  refine va_sld hx hb hX hbl hbA hw.2.2.2 (show vp_in (nI i + 1) L from sX_in hi hL 1 (by omega)) dL_law_334 ?_
  refine lv_aload_n hx hb dL_law_335 rfl (lv_at hl 0 rfl) ?_
  refine lv_iload hx hb dL_law_336 (lv_at hl 4 rfl) ?_
  refine lv_iconst (v := 2) hx hb dL_law_338 (by decide) ?_
  refine lv_iadd hx hb dL_law_339 ?_
  refine va_sld hx hb hX hbl hbA hw.2.2.2 (show vp_in (nI i + 2) L from sX_in hi hL 2 (by omega)) dL_law_340 ?_
  refine lv_aload_n hx hb dL_law_341 rfl (lv_at hl 0 rfl) ?_
  refine lv_iload hx hb dL_law_342 (lv_at hl 4 rfl) ?_
  refine lv_iconst (v := 3) hx hb dL_law_344 (by decide) ?_
  refine lv_iadd hx hb dL_law_345 ?_
  refine va_sld hx hb hX hbl hbA hw.2.2.2 (show vp_in (nI i + 3) L from sX_in hi hL 3 (by omega)) dL_law_346 ?_
  refine lv_aload_n hx hb dL_law_347 rfl (lv_at hl 3 rfl) ?_
  obtain ⟨k, v, o', ce', cr', k1, k2, k3, hk0, h'⟩ := lc_saying (D := D) (adK := adK) (adV := adV) (tkA := tkA) (swA := swA) htr (sa := sa) (ao := nA s.heap.size 143) o h ((sX xs i 1)) ((sX xs i 2)) ((sX xs i 3))
  refine L_S (r := (k, ce', o')) (As := [.ref (adC s.heap.size 0), .int (sX xs i 1), .int (sX xs i 2), .int (sX xs i 3), .ref (nA s.heap.size 143)]) (rest := []) ⟨hx, hb, hml, hown, hts⟩ k1 (vx_cwSW 5 hts gL_law_L_saying rfl rfl rfl (by decide +kernel) ⟨Nat.le_of_ble_eq_true rfl, Nat.le_of_ble_eq_true rfl⟩) STL_ok hst hK (CRW_c h).1 (CRW_c h).2.2.1 hw rfl hl.1 rfl (Nat.le_of_ble_eq_true rfl) dL_law_348 hcs (fun H locs hw => ?_)
  refine lv_istore (lv' := [(5, .int k), (0, .ref b), (1, .ref (adC s.heap.size 0)), (2, .ref (nAt s.heap.size 124 0)), (3, .ref (nA s.heap.size 143)), (4, .int (nI i))]) hx hb dL_law_351 hl (by decide) rfl (fun ls hl => ?_)
  refine lv_aload_n hx hb dL_law_353 rfl (lv_at hl 3 rfl) ?_
  refine lv_aload_n hx hb dL_law_354 rfl (lv_at hl 1 rfl) ?_
  refine lv_iload hx hb dL_law_355 (lv_at hl 5 rfl) ?_
  refine lv_iconst (v := 1) hx hb dL_law_357 (by decide) ?_
  refine lv_iadd hx hb dL_law_358 ?_
  refine va_sld hx hb hX hbl hbA hw.2.2.2 (show vp_in (nI i + 1) L from sX_in hi hL 1 (by omega)) dL_law_359 ?_
  refine lv_aload_n hx hb dL_law_360 rfl (lv_at hl 1 rfl) ?_
  refine lv_iload hx hb dL_law_361 (lv_at hl 5 rfl) ?_
  refine lv_iconst (v := 2) hx hb dL_law_363 (by decide) ?_
  refine lv_iadd hx hb dL_law_364 ?_
  refine va_sld hx hb hX hbl hbA hw.2.2.2 (show vp_in (nI i + 2) L from sX_in hi hL 2 (by omega)) dL_law_365 ?_
  refine lv_aload_n hx hb dL_law_366 rfl (lv_at hl 1 rfl) ?_
  refine lv_iload hx hb dL_law_367 (lv_at hl 5 rfl) ?_
  refine lv_iconst (v := 3) hx hb dL_law_369 (by decide) ?_
  refine lv_iadd hx hb dL_law_370 ?_
  refine va_sld hx hb hX hbl hbA hw.2.2.2 (show vp_in (nI i + 3) L from sX_in hi hL 3 (by omega)) dL_law_371 ?_
  refine L_R (As := [.int (sX xs i 1), .int (sX xs i 2), .int (sX xs i 3)]) (rest := []) ⟨hx, hb, hml, hown, hts⟩ k2 (cwV 3 hts gL_law_X12_saying rfl rfl rfl (by decide +kernel) ⟨Nat.le_of_ble_eq_true rfl, Nat.le_of_ble_eq_true rfl⟩) STR_ok hsr hK (CRW_c h').1 (CRW_c h).2.2.1 (CRW_c h).2.2.2 hw rfl hl.1 rfl (Nat.le_of_ble_eq_true rfl) dL_law_372 hc1 (fun H locs hw => ?_)
  refine lv_istore (lv' := [(6, .int v), (5, .int k), (0, .ref b), (1, .ref (adC s.heap.size 0)), (2, .ref (nAt s.heap.size 124 0)), (3, .ref (nA s.heap.size 143)), (4, .int (nI i))]) hx hb dL_law_375 hl (by decide) rfl (fun ls hl => ?_)
  refine lv_aload_n hx hb dL_law_377 rfl (lv_at hl 4 rfl) ?_
  refine L_R (As := []) (rest := []) ⟨hx, hb, hml, hown, hts⟩ k3 (cwV 0 hts gL_law_X12_thrown rfl rfl rfl (by decide +kernel) ⟨Nat.le_of_ble_eq_true rfl, Nat.le_of_ble_eq_true rfl⟩) STR_ok hsr hK (CRW_c h').1 (CRW_c h').2.2.1 (CRW_c h').2.2.2 hw rfl hl.1 rfl (Nat.le_of_ble_eq_true rfl) dL_law_378 hc1 (fun H locs hw => ?_)
  refine lv_iload hx hb dL_law_381 (lv_at hl 1 rfl) ?_
  refine lv_icmp_eq (tgt := 388) hx hb dL_law_383 (by decide) (fun _ => ?_) (fun c1 => absurd rfl c1)
  refine lv_iload hx hb dL_law_388 (lv_at hl 1 rfl) ?_
  refine lv_if_ne (tgt := 405) hx hb dL_law_390 (by decide) (fun _ => ?_) (fun ck => ?_)
  · refine lv_goto (tgt := 910) hx hb dL_law_405 (by decide) ?_
    exact K ce' cr' o' H locs ls h' hw (lv_sub hl [2, 3, 4, 5, 6] rfl)
  · refine lv_aload_n hx hb dL_law_393 rfl (lv_at hl 5 rfl) ?_
    refine lv_iconst (v := 0) hx hb dL_law_394 (by decide) ?_
    refine va_lald hx hb hK hw.2.2.1 0 3 rfl rfl (show vp_in (nI 0) 1 from vp_in_nI (by omega) (by omega)) dL_law_395 ?_
    refine lv_iload hx hb dL_law_396 (lv_at hl 0 rfl) ?_
    refine lv_i2l hx hb dL_law_398 rfl ?_
    refine W.lcmp hx hb dL_law_399 ?_
    refine lv_if_eq (tgt := 405) hx hb dL_law_400 (by decide) (fun _ => ?_) (fun c1 => (c1 (show lg_cmp (o' 0) v.toInt64 = 0 by rw [hk0 ck]; simp [lg_cmp])).elim)
    refine lv_goto (tgt := 910) hx hb dL_law_405 (by decide) ?_
    exact K ce' cr' o' H locs ls h' hw (lv_sub hl [2, 3, 4, 5, 6] rfl)
set_option maxHeartbeats 1000000 in
set_option maxRecDepth 100000 in
theorem law_octet {p : Program} {l : Launch} {e : Env} {s : State} {m : MethodId} {below : List Frame} {meth : Method} {c : Code} {b L : Nat} {xs : Nat → Int32} {D : va_G} {y : Nat → ClassId} {adE adK adV : Nat → Nat} {tkA swA : Nat} {sa : Nat → Nat} {i cells slots : Nat} {Q : State → Prop} (htr : l.stackTraces = false) (C1 : LCX p s m meth c b L xs D y adE adK adV tkA swA sa) (hi : i + 6 ≤ L) (hL : L ≤ 3072) (hcs : cells + 1 ≤ 601024 ∧ slots + 6 ≤ 7293034) (K : LKK p l e s m below meth c b i D y adE cells slots Q) {ce cr : List va_E} {o : Nat → Int64} {H : Heap} {locs : List Loc} {ls : Array Slot} (h : CRW (adC s.heap.size) adE y (nAt s.heap.size 124) ce cr) (hw : LWo D s.heap.size (y 3) ce cr o s H locs) (hl : lv_has ls 7 [(0, .ref b), (1, .ref (adC s.heap.size 0)), (2, .ref (nAt s.heap.size 124 0)), (3, .ref (nA s.heap.size 143)), (4, .int (nI i))]) : W p l e room_1 s m #[Value.ref b] below meth c H locs cells slots Q (F0 m 446 ls []) := by
  obtain ⟨hx, hb, hml, hown, hts, hX, hbl, hK, hst, hsr⟩ := C1
  have hbA : ¬ oldS s b := Nat.not_le.mpr hbl
  have hc0 : cells ≤ room_1.cells ∧ slots ≤ room_1.slots := ⟨show cells ≤ 601024 by omega, show slots ≤ 7293034 by omega⟩
  have hc1 : cells + 1 ≤ room_1.cells ∧ slots + 6 ≤ room_1.slots := hcs
  refine lv_aload_n hx hb dL_law_446 rfl (lv_at hl 1 rfl) ?_
  refine lv_aload_n hx hb dL_law_447 rfl (lv_at hl 0 rfl) ?_
  refine lv_iload hx hb dL_law_448 (lv_at hl 4 rfl) ?_
  refine lv_iconst (v := 1) hx hb dL_law_450 (by decide) ?_
  refine lv_iadd hx hb dL_law_451 ?_
  refine va_sld hx hb hX hbl hbA hw.2.2.2 (show vp_in (nI i + 1) L from sX_in hi hL 1 (by omega)) dL_law_452 ?_
  refine lv_aload_n hx hb dL_law_453 rfl (lv_at hl 3 rfl) ?_
  obtain ⟨k, v, o', ce', cr', k1, k2, k3, hk0, h'⟩ := lc_octet (D := D) (adK := adK) (adV := adV) (tkA := tkA) (swA := swA) htr (sa := sa) (ao := nA s.heap.size 143) o h ((sX xs i 1))
  refine L_S (r := (k, ce', o')) (As := [.ref (adC s.heap.size 0), .int (sX xs i 1), .ref (nA s.heap.size 143)]) (rest := []) ⟨hx, hb, hml, hown, hts⟩ k1 (vx_cwSW 3 hts gL_law_L_octet rfl rfl rfl (by decide +kernel) ⟨Nat.le_of_ble_eq_true rfl, Nat.le_of_ble_eq_true rfl⟩) STL_ok hst hK (CRW_c h).1 (CRW_c h).2.2.1 hw rfl hl.1 rfl (Nat.le_of_ble_eq_true rfl) dL_law_454 hcs (fun H locs hw => ?_)
  refine lv_istore (lv' := [(5, .int k), (0, .ref b), (1, .ref (adC s.heap.size 0)), (2, .ref (nAt s.heap.size 124 0)), (3, .ref (nA s.heap.size 143)), (4, .int (nI i))]) hx hb dL_law_457 hl (by decide) rfl (fun ls hl => ?_)
  refine lv_aload_n hx hb dL_law_459 rfl (lv_at hl 3 rfl) ?_
  refine lv_aload_n hx hb dL_law_460 rfl (lv_at hl 1 rfl) ?_
  refine lv_iload hx hb dL_law_461 (lv_at hl 5 rfl) ?_
  refine lv_iconst (v := 1) hx hb dL_law_463 (by decide) ?_
  refine lv_iadd hx hb dL_law_464 ?_
  refine va_sld hx hb hX hbl hbA hw.2.2.2 (show vp_in (nI i + 1) L from sX_in hi hL 1 (by omega)) dL_law_465 ?_
  refine L_R (As := [.int (sX xs i 1)]) (rest := []) ⟨hx, hb, hml, hown, hts⟩ k2 (cwV 1 hts gL_law_X12_octet rfl rfl rfl (by decide +kernel) ⟨Nat.le_of_ble_eq_true rfl, Nat.le_of_ble_eq_true rfl⟩) STR_ok hsr hK (CRW_c h').1 (CRW_c h).2.2.1 (CRW_c h).2.2.2 hw rfl hl.1 rfl (Nat.le_of_ble_eq_true rfl) dL_law_466 hc1 (fun H locs hw => ?_)
  refine lv_istore (lv' := [(6, .int v), (5, .int k), (0, .ref b), (1, .ref (adC s.heap.size 0)), (2, .ref (nAt s.heap.size 124 0)), (3, .ref (nA s.heap.size 143)), (4, .int (nI i))]) hx hb dL_law_469 hl (by decide) rfl (fun ls hl => ?_)
  refine lv_aload_n hx hb dL_law_471 rfl (lv_at hl 4 rfl) ?_
  refine L_R (As := []) (rest := []) ⟨hx, hb, hml, hown, hts⟩ k3 (cwV 0 hts gL_law_X12_thrown rfl rfl rfl (by decide +kernel) ⟨Nat.le_of_ble_eq_true rfl, Nat.le_of_ble_eq_true rfl⟩) STR_ok hsr hK (CRW_c h').1 (CRW_c h').2.2.1 (CRW_c h').2.2.2 hw rfl hl.1 rfl (Nat.le_of_ble_eq_true rfl) dL_law_472 hc1 (fun H locs hw => ?_)
  refine lv_iload hx hb dL_law_475 (lv_at hl 1 rfl) ?_
  refine lv_icmp_eq (tgt := 482) hx hb dL_law_477 (by decide) (fun _ => ?_) (fun c1 => absurd rfl c1)
  refine lv_iload hx hb dL_law_482 (lv_at hl 1 rfl) ?_
  refine lv_if_ne (tgt := 499) hx hb dL_law_484 (by decide) (fun _ => ?_) (fun ck => ?_)
  · refine lv_goto (tgt := 910) hx hb dL_law_499 (by decide) ?_
    exact K ce' cr' o' H locs ls h' hw (lv_sub hl [2, 3, 4, 5, 6] rfl)
  · refine lv_aload_n hx hb dL_law_487 rfl (lv_at hl 5 rfl) ?_
    refine lv_iconst (v := 0) hx hb dL_law_488 (by decide) ?_
    refine va_lald hx hb hK hw.2.2.1 0 3 rfl rfl (show vp_in (nI 0) 1 from vp_in_nI (by omega) (by omega)) dL_law_489 ?_
    refine lv_iload hx hb dL_law_490 (lv_at hl 0 rfl) ?_
    refine lv_i2l hx hb dL_law_492 rfl ?_
    refine W.lcmp hx hb dL_law_493 ?_
    refine lv_if_eq (tgt := 499) hx hb dL_law_494 (by decide) (fun _ => ?_) (fun c1 => (c1 (show lg_cmp (o' 0) v.toInt64 = 0 by rw [hk0 ck]; simp [lg_cmp])).elim)
    refine lv_goto (tgt := 910) hx hb dL_law_499 (by decide) ?_
    exact K ce' cr' o' H locs ls h' hw (lv_sub hl [2, 3, 4, 5, 6] rfl)
set_option maxHeartbeats 1000000 in
set_option maxRecDepth 100000 in
theorem law_between {p : Program} {l : Launch} {e : Env} {s : State} {m : MethodId} {below : List Frame} {meth : Method} {c : Code} {b L : Nat} {xs : Nat → Int32} {D : va_G} {y : Nat → ClassId} {adE adK adV : Nat → Nat} {tkA swA : Nat} {sa : Nat → Nat} {i cells slots : Nat} {Q : State → Prop} (htr : l.stackTraces = false) (C1 : LCX p s m meth c b L xs D y adE adK adV tkA swA sa) (hi : i + 6 ≤ L) (hL : L ≤ 3072) (hcs : cells + 1 ≤ 601024 ∧ slots + 6 ≤ 7293034) (K : LKK p l e s m below meth c b i D y adE cells slots Q) {ce cr : List va_E} {o : Nat → Int64} {H : Heap} {locs : List Loc} {ls : Array Slot} (h : CRW (adC s.heap.size) adE y (nAt s.heap.size 124) ce cr) (hw : LWo D s.heap.size (y 3) ce cr o s H locs) (hl : lv_has ls 7 [(0, .ref b), (1, .ref (adC s.heap.size 0)), (2, .ref (nAt s.heap.size 124 0)), (3, .ref (nA s.heap.size 143)), (4, .int (nI i))]) : W p l e room_1 s m #[Value.ref b] below meth c H locs cells slots Q (F0 m 552 ls []) := by
  obtain ⟨hx, hb, hml, hown, hts, hX, hbl, hK, hst, hsr⟩ := C1
  have hbA : ¬ oldS s b := Nat.not_le.mpr hbl
  have hc0 : cells ≤ room_1.cells ∧ slots ≤ room_1.slots := ⟨show cells ≤ 601024 by omega, show slots ≤ 7293034 by omega⟩
  have hc1 : cells + 1 ≤ room_1.cells ∧ slots + 6 ≤ room_1.slots := hcs
  refine lv_aload_n hx hb dL_law_552 rfl (lv_at hl 1 rfl) ?_
  refine lv_aload_n hx hb dL_law_553 rfl (lv_at hl 0 rfl) ?_
  refine lv_iload hx hb dL_law_554 (lv_at hl 4 rfl) ?_
  refine lv_iconst (v := 1) hx hb dL_law_556 (by decide) ?_
  refine lv_iadd hx hb dL_law_557 ?_
  refine va_sld hx hb hX hbl hbA hw.2.2.2 (show vp_in (nI i + 1) L from sX_in hi hL 1 (by omega)) dL_law_558 ?_
  refine lv_aload_n hx hb dL_law_559 rfl (lv_at hl 0 rfl) ?_
  refine lv_iload hx hb dL_law_560 (lv_at hl 4 rfl) ?_
  refine lv_iconst (v := 2) hx hb dL_law_562 (by decide) ?_
  refine lv_iadd hx hb dL_law_563 ?_
  refine va_sld hx hb hX hbl hbA hw.2.2.2 (show vp_in (nI i + 2) L from sX_in hi hL 2 (by omega)) dL_law_564 ?_
  refine lv_aload_n hx hb dL_law_565 rfl (lv_at hl 0 rfl) ?_
  refine lv_iload hx hb dL_law_566 (lv_at hl 4 rfl) ?_
  refine lv_iconst (v := 3) hx hb dL_law_568 (by decide) ?_
  refine lv_iadd hx hb dL_law_569 ?_
  refine va_sld hx hb hX hbl hbA hw.2.2.2 (show vp_in (nI i + 3) L from sX_in hi hL 3 (by omega)) dL_law_570 ?_
  refine lv_if_eq (tgt := 578) hx hb dL_law_571 (by decide) (fun c0 => ?_) (fun c0 => ?_)
  · refine lv_iconst (v := 0) hx hb dL_law_578 (by decide) ?_
    refine lv_aload_n hx hb dL_law_579 rfl (lv_at hl 3 rfl) ?_
    obtain ⟨k, v, o', ce', cr', k1, k2, k3, hk0, h'⟩ := lc_between (D := D) (adK := adK) (adV := adV) (tkA := tkA) (swA := swA) htr (sa := sa) (ao := nA s.heap.size 143) o h ((sX xs i 1)) ((sX xs i 2)) (0)
    refine L_S (r := (k, ce', o')) (As := [.ref (adC s.heap.size 0), .int (sX xs i 1), .int (sX xs i 2), .int 0, .ref (nA s.heap.size 143)]) (rest := []) ⟨hx, hb, hml, hown, hts⟩ k1 (vx_cwSW 5 hts gL_law_L_between rfl rfl rfl (by decide +kernel) ⟨Nat.le_of_ble_eq_true rfl, Nat.le_of_ble_eq_true rfl⟩) STL_ok hst hK (CRW_c h).1 (CRW_c h).2.2.1 hw rfl hl.1 rfl (Nat.le_of_ble_eq_true rfl) dL_law_580 hcs (fun H locs hw => ?_)
    refine lv_istore (lv' := [(5, .int k), (0, .ref b), (1, .ref (adC s.heap.size 0)), (2, .ref (nAt s.heap.size 124 0)), (3, .ref (nA s.heap.size 143)), (4, .int (nI i))]) hx hb dL_law_583 hl (by decide) rfl (fun ls hl => ?_)
    refine lv_aload_n hx hb dL_law_585 rfl (lv_at hl 3 rfl) ?_
    refine lv_aload_n hx hb dL_law_586 rfl (lv_at hl 1 rfl) ?_
    refine lv_iload hx hb dL_law_587 (lv_at hl 5 rfl) ?_
    refine lv_iconst (v := 1) hx hb dL_law_589 (by decide) ?_
    refine lv_iadd hx hb dL_law_590 ?_
    refine va_sld hx hb hX hbl hbA hw.2.2.2 (show vp_in (nI i + 1) L from sX_in hi hL 1 (by omega)) dL_law_591 ?_
    refine lv_aload_n hx hb dL_law_592 rfl (lv_at hl 1 rfl) ?_
    refine lv_iload hx hb dL_law_593 (lv_at hl 5 rfl) ?_
    refine lv_iconst (v := 2) hx hb dL_law_595 (by decide) ?_
    refine lv_iadd hx hb dL_law_596 ?_
    refine va_sld hx hb hX hbl hbA hw.2.2.2 (show vp_in (nI i + 2) L from sX_in hi hL 2 (by omega)) dL_law_597 ?_
    refine lv_aload_n hx hb dL_law_598 rfl (lv_at hl 1 rfl) ?_
    refine lv_iload hx hb dL_law_599 (lv_at hl 5 rfl) ?_
    refine lv_iconst (v := 3) hx hb dL_law_601 (by decide) ?_
    refine lv_iadd hx hb dL_law_602 ?_
    refine va_sld hx hb hX hbl hbA hw.2.2.2 (show vp_in (nI i + 3) L from sX_in hi hL 3 (by omega)) dL_law_603 ?_
    refine lv_if_eq (tgt := 611) hx hb dL_law_604 (by decide) (fun _ => ?_) (fun c2 => absurd c0 c2)
    refine lv_iconst (v := 0) hx hb dL_law_611 (by decide) ?_
    refine L_R (As := [.int (sX xs i 1), .int (sX xs i 2), .int 0]) (rest := []) ⟨hx, hb, hml, hown, hts⟩ k2 (cwV 3 hts gL_law_X12_between rfl rfl rfl (by decide +kernel) ⟨Nat.le_of_ble_eq_true rfl, Nat.le_of_ble_eq_true rfl⟩) STR_ok hsr hK (CRW_c h').1 (CRW_c h).2.2.1 (CRW_c h).2.2.2 hw rfl hl.1 rfl (Nat.le_of_ble_eq_true rfl) dL_law_612 hc1 (fun H locs hw => ?_)
    refine lv_istore (lv' := [(6, .int v), (5, .int k), (0, .ref b), (1, .ref (adC s.heap.size 0)), (2, .ref (nAt s.heap.size 124 0)), (3, .ref (nA s.heap.size 143)), (4, .int (nI i))]) hx hb dL_law_615 hl (by decide) rfl (fun ls hl => ?_)
    refine lv_aload_n hx hb dL_law_617 rfl (lv_at hl 4 rfl) ?_
    refine L_R (As := []) (rest := []) ⟨hx, hb, hml, hown, hts⟩ k3 (cwV 0 hts gL_law_X12_thrown rfl rfl rfl (by decide +kernel) ⟨Nat.le_of_ble_eq_true rfl, Nat.le_of_ble_eq_true rfl⟩) STR_ok hsr hK (CRW_c h').1 (CRW_c h').2.2.1 (CRW_c h').2.2.2 hw rfl hl.1 rfl (Nat.le_of_ble_eq_true rfl) dL_law_618 hc1 (fun H locs hw => ?_)
    refine lv_iload hx hb dL_law_621 (lv_at hl 1 rfl) ?_
    refine lv_icmp_eq (tgt := 628) hx hb dL_law_623 (by decide) (fun _ => ?_) (fun c1 => absurd rfl c1)
    refine lv_iload hx hb dL_law_628 (lv_at hl 1 rfl) ?_
    refine lv_if_ne (tgt := 645) hx hb dL_law_630 (by decide) (fun _ => ?_) (fun ck => ?_)
    · refine lv_goto (tgt := 910) hx hb dL_law_645 (by decide) ?_
      exact K ce' cr' o' H locs ls h' hw (lv_sub hl [2, 3, 4, 5, 6] rfl)
    · refine lv_aload_n hx hb dL_law_633 rfl (lv_at hl 5 rfl) ?_
      refine lv_iconst (v := 0) hx hb dL_law_634 (by decide) ?_
      refine va_lald hx hb hK hw.2.2.1 0 3 rfl rfl (show vp_in (nI 0) 1 from vp_in_nI (by omega) (by omega)) dL_law_635 ?_
      refine lv_iload hx hb dL_law_636 (lv_at hl 0 rfl) ?_
      refine lv_i2l hx hb dL_law_638 rfl ?_
      refine W.lcmp hx hb dL_law_639 ?_
      refine lv_if_eq (tgt := 645) hx hb dL_law_640 (by decide) (fun _ => ?_) (fun c1 => (c1 (show lg_cmp (o' 0) v.toInt64 = 0 by rw [hk0 ck]; simp [lg_cmp])).elim)
      refine lv_goto (tgt := 910) hx hb dL_law_645 (by decide) ?_
      exact K ce' cr' o' H locs ls h' hw (lv_sub hl [2, 3, 4, 5, 6] rfl)
  · refine lv_iconst (v := 1) hx hb dL_law_574 (by decide) ?_
    refine lv_goto (tgt := 579) hx hb dL_law_575 (by decide) ?_
    refine lv_aload_n hx hb dL_law_579 rfl (lv_at hl 3 rfl) ?_
    obtain ⟨k, v, o', ce', cr', k1, k2, k3, hk0, h'⟩ := lc_between (D := D) (adK := adK) (adV := adV) (tkA := tkA) (swA := swA) htr (sa := sa) (ao := nA s.heap.size 143) o h ((sX xs i 1)) ((sX xs i 2)) (1)
    refine L_S (r := (k, ce', o')) (As := [.ref (adC s.heap.size 0), .int (sX xs i 1), .int (sX xs i 2), .int 1, .ref (nA s.heap.size 143)]) (rest := []) ⟨hx, hb, hml, hown, hts⟩ k1 (vx_cwSW 5 hts gL_law_L_between rfl rfl rfl (by decide +kernel) ⟨Nat.le_of_ble_eq_true rfl, Nat.le_of_ble_eq_true rfl⟩) STL_ok hst hK (CRW_c h).1 (CRW_c h).2.2.1 hw rfl hl.1 rfl (Nat.le_of_ble_eq_true rfl) dL_law_580 hcs (fun H locs hw => ?_)
    refine lv_istore (lv' := [(5, .int k), (0, .ref b), (1, .ref (adC s.heap.size 0)), (2, .ref (nAt s.heap.size 124 0)), (3, .ref (nA s.heap.size 143)), (4, .int (nI i))]) hx hb dL_law_583 hl (by decide) rfl (fun ls hl => ?_)
    refine lv_aload_n hx hb dL_law_585 rfl (lv_at hl 3 rfl) ?_
    refine lv_aload_n hx hb dL_law_586 rfl (lv_at hl 1 rfl) ?_
    refine lv_iload hx hb dL_law_587 (lv_at hl 5 rfl) ?_
    refine lv_iconst (v := 1) hx hb dL_law_589 (by decide) ?_
    refine lv_iadd hx hb dL_law_590 ?_
    refine va_sld hx hb hX hbl hbA hw.2.2.2 (show vp_in (nI i + 1) L from sX_in hi hL 1 (by omega)) dL_law_591 ?_
    refine lv_aload_n hx hb dL_law_592 rfl (lv_at hl 1 rfl) ?_
    refine lv_iload hx hb dL_law_593 (lv_at hl 5 rfl) ?_
    refine lv_iconst (v := 2) hx hb dL_law_595 (by decide) ?_
    refine lv_iadd hx hb dL_law_596 ?_
    refine va_sld hx hb hX hbl hbA hw.2.2.2 (show vp_in (nI i + 2) L from sX_in hi hL 2 (by omega)) dL_law_597 ?_
    refine lv_aload_n hx hb dL_law_598 rfl (lv_at hl 1 rfl) ?_
    refine lv_iload hx hb dL_law_599 (lv_at hl 5 rfl) ?_
    refine lv_iconst (v := 3) hx hb dL_law_601 (by decide) ?_
    refine lv_iadd hx hb dL_law_602 ?_
    refine va_sld hx hb hX hbl hbA hw.2.2.2 (show vp_in (nI i + 3) L from sX_in hi hL 3 (by omega)) dL_law_603 ?_
    refine lv_if_eq (tgt := 611) hx hb dL_law_604 (by decide) (fun c2 => absurd c2 c0) (fun _ => ?_)
    refine lv_iconst (v := 1) hx hb dL_law_607 (by decide) ?_
    refine lv_goto (tgt := 612) hx hb dL_law_608 (by decide) ?_
    refine L_R (As := [.int (sX xs i 1), .int (sX xs i 2), .int 1]) (rest := []) ⟨hx, hb, hml, hown, hts⟩ k2 (cwV 3 hts gL_law_X12_between rfl rfl rfl (by decide +kernel) ⟨Nat.le_of_ble_eq_true rfl, Nat.le_of_ble_eq_true rfl⟩) STR_ok hsr hK (CRW_c h').1 (CRW_c h).2.2.1 (CRW_c h).2.2.2 hw rfl hl.1 rfl (Nat.le_of_ble_eq_true rfl) dL_law_612 hc1 (fun H locs hw => ?_)
    refine lv_istore (lv' := [(6, .int v), (5, .int k), (0, .ref b), (1, .ref (adC s.heap.size 0)), (2, .ref (nAt s.heap.size 124 0)), (3, .ref (nA s.heap.size 143)), (4, .int (nI i))]) hx hb dL_law_615 hl (by decide) rfl (fun ls hl => ?_)
    refine lv_aload_n hx hb dL_law_617 rfl (lv_at hl 4 rfl) ?_
    refine L_R (As := []) (rest := []) ⟨hx, hb, hml, hown, hts⟩ k3 (cwV 0 hts gL_law_X12_thrown rfl rfl rfl (by decide +kernel) ⟨Nat.le_of_ble_eq_true rfl, Nat.le_of_ble_eq_true rfl⟩) STR_ok hsr hK (CRW_c h').1 (CRW_c h').2.2.1 (CRW_c h').2.2.2 hw rfl hl.1 rfl (Nat.le_of_ble_eq_true rfl) dL_law_618 hc1 (fun H locs hw => ?_)
    refine lv_iload hx hb dL_law_621 (lv_at hl 1 rfl) ?_
    refine lv_icmp_eq (tgt := 628) hx hb dL_law_623 (by decide) (fun _ => ?_) (fun c1 => absurd rfl c1)
    refine lv_iload hx hb dL_law_628 (lv_at hl 1 rfl) ?_
    refine lv_if_ne (tgt := 645) hx hb dL_law_630 (by decide) (fun _ => ?_) (fun ck => ?_)
    · refine lv_goto (tgt := 910) hx hb dL_law_645 (by decide) ?_
      exact K ce' cr' o' H locs ls h' hw (lv_sub hl [2, 3, 4, 5, 6] rfl)
    · refine lv_aload_n hx hb dL_law_633 rfl (lv_at hl 5 rfl) ?_
      refine lv_iconst (v := 0) hx hb dL_law_634 (by decide) ?_
      refine va_lald hx hb hK hw.2.2.1 0 3 rfl rfl (show vp_in (nI 0) 1 from vp_in_nI (by omega) (by omega)) dL_law_635 ?_
      refine lv_iload hx hb dL_law_636 (lv_at hl 0 rfl) ?_
      refine lv_i2l hx hb dL_law_638 rfl ?_
      refine W.lcmp hx hb dL_law_639 ?_
      refine lv_if_eq (tgt := 645) hx hb dL_law_640 (by decide) (fun _ => ?_) (fun c1 => (c1 (show lg_cmp (o' 0) v.toInt64 = 0 by rw [hk0 ck]; simp [lg_cmp])).elim)
      refine lv_goto (tgt := 910) hx hb dL_law_645 (by decide) ?_
      exact K ce' cr' o' H locs ls h' hw (lv_sub hl [2, 3, 4, 5, 6] rfl)
set_option maxHeartbeats 1000000 in
set_option maxRecDepth 100000 in
theorem law_needless {p : Program} {l : Launch} {e : Env} {s : State} {m : MethodId} {below : List Frame} {meth : Method} {c : Code} {b L : Nat} {xs : Nat → Int32} {D : va_G} {y : Nat → ClassId} {adE adK adV : Nat → Nat} {tkA swA : Nat} {sa : Nat → Nat} {i cells slots : Nat} {Q : State → Prop} (htr : l.stackTraces = false) (C1 : LCX p s m meth c b L xs D y adE adK adV tkA swA sa) (hi : i + 6 ≤ L) (hL : L ≤ 3072) (hcs : cells + 1 ≤ 601024 ∧ slots + 6 ≤ 7293034) (K : LKK p l e s m below meth c b i D y adE cells slots Q) {ce cr : List va_E} {o : Nat → Int64} {H : Heap} {locs : List Loc} {ls : Array Slot} (h : CRW (adC s.heap.size) adE y (nAt s.heap.size 124) ce cr) (hw : LWo D s.heap.size (y 3) ce cr o s H locs) (hl : lv_has ls 7 [(0, .ref b), (1, .ref (adC s.heap.size 0)), (2, .ref (nAt s.heap.size 124 0)), (3, .ref (nA s.heap.size 143)), (4, .int (nI i))]) : W p l e room_1 s m #[Value.ref b] below meth c H locs cells slots Q (F0 m 736 ls []) := by
  obtain ⟨hx, hb, hml, hown, hts, hX, hbl, hK, hst, hsr⟩ := C1
  have hbA : ¬ oldS s b := Nat.not_le.mpr hbl
  have hc0 : cells ≤ room_1.cells ∧ slots ≤ room_1.slots := ⟨show cells ≤ 601024 by omega, show slots ≤ 7293034 by omega⟩
  have hc1 : cells + 1 ≤ room_1.cells ∧ slots + 6 ≤ room_1.slots := hcs
  refine lv_aload_n hx hb dL_law_736 rfl (lv_at hl 1 rfl) ?_
  refine lv_aload_n hx hb dL_law_737 rfl (lv_at hl 0 rfl) ?_
  refine lv_iload hx hb dL_law_738 (lv_at hl 4 rfl) ?_
  refine lv_iconst (v := 1) hx hb dL_law_740 (by decide) ?_
  refine lv_iadd hx hb dL_law_741 ?_
  refine va_sld hx hb hX hbl hbA hw.2.2.2 (show vp_in (nI i + 1) L from sX_in hi hL 1 (by omega)) dL_law_742 ?_
  refine lv_aload_n hx hb dL_law_743 rfl (lv_at hl 0 rfl) ?_
  refine lv_iload hx hb dL_law_744 (lv_at hl 4 rfl) ?_
  refine lv_iconst (v := 2) hx hb dL_law_746 (by decide) ?_
  refine lv_iadd hx hb dL_law_747 ?_
  refine va_sld hx hb hX hbl hbA hw.2.2.2 (show vp_in (nI i + 2) L from sX_in hi hL 2 (by omega)) dL_law_748 ?_
  refine lv_aload_n hx hb dL_law_749 rfl (lv_at hl 3 rfl) ?_
  obtain ⟨k, v, o', ce', cr', k1, k2, k3, hk0, h'⟩ := lc_needless (D := D) (adK := adK) (adV := adV) (tkA := tkA) (swA := swA) htr (sa := sa) (ao := nA s.heap.size 143) o h ((sX xs i 1)) ((sX xs i 2))
  refine L_S (r := (k, ce', o')) (As := [.ref (adC s.heap.size 0), .int (sX xs i 1), .int (sX xs i 2), .ref (nA s.heap.size 143)]) (rest := []) ⟨hx, hb, hml, hown, hts⟩ k1 (vx_cwSW 4 hts gL_law_L_needless rfl rfl rfl (by decide +kernel) ⟨Nat.le_of_ble_eq_true rfl, Nat.le_of_ble_eq_true rfl⟩) STL_ok hst hK (CRW_c h).1 (CRW_c h).2.2.1 hw rfl hl.1 rfl (Nat.le_of_ble_eq_true rfl) dL_law_750 hcs (fun H locs hw => ?_)
  refine lv_istore (lv' := [(5, .int k), (0, .ref b), (1, .ref (adC s.heap.size 0)), (2, .ref (nAt s.heap.size 124 0)), (3, .ref (nA s.heap.size 143)), (4, .int (nI i))]) hx hb dL_law_753 hl (by decide) rfl (fun ls hl => ?_)
  refine lv_aload_n hx hb dL_law_755 rfl (lv_at hl 3 rfl) ?_
  refine lv_aload_n hx hb dL_law_756 rfl (lv_at hl 1 rfl) ?_
  refine lv_iload hx hb dL_law_757 (lv_at hl 5 rfl) ?_
  refine lv_iconst (v := 1) hx hb dL_law_759 (by decide) ?_
  refine lv_iadd hx hb dL_law_760 ?_
  refine va_sld hx hb hX hbl hbA hw.2.2.2 (show vp_in (nI i + 1) L from sX_in hi hL 1 (by omega)) dL_law_761 ?_
  refine lv_aload_n hx hb dL_law_762 rfl (lv_at hl 1 rfl) ?_
  refine lv_iload hx hb dL_law_763 (lv_at hl 5 rfl) ?_
  refine lv_iconst (v := 2) hx hb dL_law_765 (by decide) ?_
  refine lv_iadd hx hb dL_law_766 ?_
  refine va_sld hx hb hX hbl hbA hw.2.2.2 (show vp_in (nI i + 2) L from sX_in hi hL 2 (by omega)) dL_law_767 ?_
  refine L_R (As := [.int (sX xs i 1), .int (sX xs i 2)]) (rest := []) ⟨hx, hb, hml, hown, hts⟩ k2 (cwV 2 hts gL_law_X12_needless rfl rfl rfl (by decide +kernel) ⟨Nat.le_of_ble_eq_true rfl, Nat.le_of_ble_eq_true rfl⟩) STR_ok hsr hK (CRW_c h').1 (CRW_c h).2.2.1 (CRW_c h).2.2.2 hw rfl hl.1 rfl (Nat.le_of_ble_eq_true rfl) dL_law_768 hc1 (fun H locs hw => ?_)
  refine lv_istore (lv' := [(6, .int v), (5, .int k), (0, .ref b), (1, .ref (adC s.heap.size 0)), (2, .ref (nAt s.heap.size 124 0)), (3, .ref (nA s.heap.size 143)), (4, .int (nI i))]) hx hb dL_law_771 hl (by decide) rfl (fun ls hl => ?_)
  refine lv_aload_n hx hb dL_law_773 rfl (lv_at hl 4 rfl) ?_
  refine L_R (As := []) (rest := []) ⟨hx, hb, hml, hown, hts⟩ k3 (cwV 0 hts gL_law_X12_thrown rfl rfl rfl (by decide +kernel) ⟨Nat.le_of_ble_eq_true rfl, Nat.le_of_ble_eq_true rfl⟩) STR_ok hsr hK (CRW_c h').1 (CRW_c h').2.2.1 (CRW_c h').2.2.2 hw rfl hl.1 rfl (Nat.le_of_ble_eq_true rfl) dL_law_774 hc1 (fun H locs hw => ?_)
  refine lv_iload hx hb dL_law_777 (lv_at hl 1 rfl) ?_
  refine lv_icmp_eq (tgt := 784) hx hb dL_law_779 (by decide) (fun _ => ?_) (fun c1 => absurd rfl c1)
  refine lv_iload hx hb dL_law_784 (lv_at hl 1 rfl) ?_
  refine lv_if_ne (tgt := 801) hx hb dL_law_786 (by decide) (fun _ => ?_) (fun ck => ?_)
  · refine lv_goto (tgt := 910) hx hb dL_law_801 (by decide) ?_
    exact K ce' cr' o' H locs ls h' hw (lv_sub hl [2, 3, 4, 5, 6] rfl)
  · refine lv_aload_n hx hb dL_law_789 rfl (lv_at hl 5 rfl) ?_
    refine lv_iconst (v := 0) hx hb dL_law_790 (by decide) ?_
    refine va_lald hx hb hK hw.2.2.1 0 3 rfl rfl (show vp_in (nI 0) 1 from vp_in_nI (by omega) (by omega)) dL_law_791 ?_
    refine lv_iload hx hb dL_law_792 (lv_at hl 0 rfl) ?_
    refine lv_i2l hx hb dL_law_794 rfl ?_
    refine W.lcmp hx hb dL_law_795 ?_
    refine lv_if_eq (tgt := 801) hx hb dL_law_796 (by decide) (fun _ => ?_) (fun c1 => (c1 (show lg_cmp (o' 0) v.toInt64 = 0 by rw [hk0 ck]; simp [lg_cmp])).elim)
    refine lv_goto (tgt := 910) hx hb dL_law_801 (by decide) ?_
    exact K ce' cr' o' H locs ls h' hw (lv_sub hl [2, 3, 4, 5, 6] rfl)
set_option maxHeartbeats 1000000 in
set_option maxRecDepth 100000 in
theorem law_sayings {p : Program} {l : Launch} {e : Env} {s : State} {m : MethodId} {below : List Frame} {meth : Method} {c : Code} {b L : Nat} {xs : Nat → Int32} {D : va_G} {y : Nat → ClassId} {adE adK adV : Nat → Nat} {tkA swA : Nat} {sa : Nat → Nat} {i cells slots : Nat} {Q : State → Prop} (htr : l.stackTraces = false) (C1 : LCX p s m meth c b L xs D y adE adK adV tkA swA sa) (hi : i + 6 ≤ L) (hL : L ≤ 3072) (hcs : cells + 1 ≤ 601024 ∧ slots + 6 ≤ 7293034) (K : LKK p l e s m below meth c b i D y adE cells slots Q) {ce cr : List va_E} {o : Nat → Int64} {H : Heap} {locs : List Loc} {ls : Array Slot} (h : CRW (adC s.heap.size) adE y (nAt s.heap.size 124) ce cr) (hw : LWo D s.heap.size (y 3) ce cr o s H locs) (hl : lv_has ls 7 [(0, .ref b), (1, .ref (adC s.heap.size 0)), (2, .ref (nAt s.heap.size 124 0)), (3, .ref (nA s.heap.size 143)), (4, .int (nI i))]) : W p l e room_1 s m #[Value.ref b] below meth c H locs cells slots Q (F0 m 829 ls []) := by
  obtain ⟨hx, hb, hml, hown, hts, hX, hbl, hK, hst, hsr⟩ := C1
  have hbA : ¬ oldS s b := Nat.not_le.mpr hbl
  have hc0 : cells ≤ room_1.cells ∧ slots ≤ room_1.slots := ⟨show cells ≤ 601024 by omega, show slots ≤ 7293034 by omega⟩
  have hc1 : cells + 1 ≤ room_1.cells ∧ slots + 6 ≤ room_1.slots := hcs
  refine lv_aload_n hx hb dL_law_829 rfl (lv_at hl 1 rfl) ?_
  refine lv_aload_n hx hb dL_law_830 rfl (lv_at hl 0 rfl) ?_
  refine lv_iload hx hb dL_law_831 (lv_at hl 4 rfl) ?_
  refine lv_iconst (v := 1) hx hb dL_law_833 (by decide) ?_
  refine lv_iadd hx hb dL_law_834 ?_
  refine va_sld hx hb hX hbl hbA hw.2.2.2 (show vp_in (nI i + 1) L from sX_in hi hL 1 (by omega)) dL_law_835 ?_
  refine lv_aload_n hx hb dL_law_836 rfl (lv_at hl 3 rfl) ?_
  obtain ⟨k, v, o', ce', cr', k1, k2, k3, hk0, h'⟩ := lc_sayings (D := D) (adK := adK) (adV := adV) (tkA := tkA) (swA := swA) htr (sa := sa) (ao := nA s.heap.size 143) o h ((sX xs i 1))
  refine L_S (r := (k, ce', o')) (As := [.ref (adC s.heap.size 0), .int (sX xs i 1), .ref (nA s.heap.size 143)]) (rest := []) ⟨hx, hb, hml, hown, hts⟩ k1 (vx_cwSW 3 hts gL_law_L_sayings rfl rfl rfl (by decide +kernel) ⟨Nat.le_of_ble_eq_true rfl, Nat.le_of_ble_eq_true rfl⟩) STL_ok hst hK (CRW_c h).1 (CRW_c h).2.2.1 hw rfl hl.1 rfl (Nat.le_of_ble_eq_true rfl) dL_law_837 hcs (fun H locs hw => ?_)
  refine lv_istore (lv' := [(5, .int k), (0, .ref b), (1, .ref (adC s.heap.size 0)), (2, .ref (nAt s.heap.size 124 0)), (3, .ref (nA s.heap.size 143)), (4, .int (nI i))]) hx hb dL_law_840 hl (by decide) rfl (fun ls hl => ?_)
  refine lv_aload_n hx hb dL_law_842 rfl (lv_at hl 3 rfl) ?_
  refine lv_aload_n hx hb dL_law_843 rfl (lv_at hl 1 rfl) ?_
  refine lv_iload hx hb dL_law_844 (lv_at hl 5 rfl) ?_
  refine lv_iconst (v := 1) hx hb dL_law_846 (by decide) ?_
  refine lv_iadd hx hb dL_law_847 ?_
  refine va_sld hx hb hX hbl hbA hw.2.2.2 (show vp_in (nI i + 1) L from sX_in hi hL 1 (by omega)) dL_law_848 ?_
  refine L_R (As := [.int (sX xs i 1)]) (rest := []) ⟨hx, hb, hml, hown, hts⟩ k2 (cwV 1 hts gL_law_X12_sayings rfl rfl rfl (by decide +kernel) ⟨Nat.le_of_ble_eq_true rfl, Nat.le_of_ble_eq_true rfl⟩) STR_ok hsr hK (CRW_c h').1 (CRW_c h).2.2.1 (CRW_c h).2.2.2 hw rfl hl.1 rfl (Nat.le_of_ble_eq_true rfl) dL_law_849 hc1 (fun H locs hw => ?_)
  refine lv_istore (lv' := [(6, .int v), (5, .int k), (0, .ref b), (1, .ref (adC s.heap.size 0)), (2, .ref (nAt s.heap.size 124 0)), (3, .ref (nA s.heap.size 143)), (4, .int (nI i))]) hx hb dL_law_852 hl (by decide) rfl (fun ls hl => ?_)
  refine lv_aload_n hx hb dL_law_854 rfl (lv_at hl 4 rfl) ?_
  refine L_R (As := []) (rest := []) ⟨hx, hb, hml, hown, hts⟩ k3 (cwV 0 hts gL_law_X12_thrown rfl rfl rfl (by decide +kernel) ⟨Nat.le_of_ble_eq_true rfl, Nat.le_of_ble_eq_true rfl⟩) STR_ok hsr hK (CRW_c h').1 (CRW_c h').2.2.1 (CRW_c h').2.2.2 hw rfl hl.1 rfl (Nat.le_of_ble_eq_true rfl) dL_law_855 hc1 (fun H locs hw => ?_)
  refine lv_iload hx hb dL_law_858 (lv_at hl 1 rfl) ?_
  refine lv_icmp_eq (tgt := 865) hx hb dL_law_860 (by decide) (fun _ => ?_) (fun c1 => absurd rfl c1)
  refine lv_iload hx hb dL_law_865 (lv_at hl 1 rfl) ?_
  refine lv_if_ne (tgt := 882) hx hb dL_law_867 (by decide) (fun _ => ?_) (fun ck => ?_)
  · refine lv_goto (tgt := 910) hx hb dL_law_882 (by decide) ?_
    exact K ce' cr' o' H locs ls h' hw (lv_sub hl [2, 3, 4, 5, 6] rfl)
  · refine lv_aload_n hx hb dL_law_870 rfl (lv_at hl 5 rfl) ?_
    refine lv_iconst (v := 0) hx hb dL_law_871 (by decide) ?_
    refine va_lald hx hb hK hw.2.2.1 0 3 rfl rfl (show vp_in (nI 0) 1 from vp_in_nI (by omega) (by omega)) dL_law_872 ?_
    refine lv_iload hx hb dL_law_873 (lv_at hl 0 rfl) ?_
    refine lv_i2l hx hb dL_law_875 rfl ?_
    refine W.lcmp hx hb dL_law_876 ?_
    refine lv_if_eq (tgt := 882) hx hb dL_law_877 (by decide) (fun _ => ?_) (fun c1 => (c1 (show lg_cmp (o' 0) v.toInt64 = 0 by rw [hk0 ck]; simp [lg_cmp])).elim)
    refine lv_goto (tgt := 910) hx hb dL_law_882 (by decide) ?_
    exact K ce' cr' o' H locs ls h' hw (lv_sub hl [2, 3, 4, 5, 6] rfl)
