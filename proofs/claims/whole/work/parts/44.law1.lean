set_option maxHeartbeats 4000000 in
set_option maxRecDepth 100000 in
theorem lwc_5 {p : Program} {l : Launch} {e : Env} {s : State} {m : MethodId} {below : List Frame} {meth : Method} {c : Code} {b L : Nat} {xs : Nat → Int32} {E : En} {i k x z : Nat} {S : Sx} {H : Heap} {locs : List Loc} {ls : Array Slot} {Q : State → Prop} (hL : L ≤ 3072) (C0 : lw_At p s m meth c b L xs) (hT : Tf E s) (hW : Wf S) (hb9 : sNr S < 512 ∧ sNt S < 512 ∧ sNl S < 512) (hk : k < 512) (hi : i + 5 < L) (hI : LI E s.heap.size S S x z H) (hS : va_S (fun q : Nat => s.heap.size ≤ q) s.heap H locs) (hl : lv_has ls 4 [(0, .ref b), (1, .ref x), (2, .ref z), (3, .int (nI i))])
    (next : ∀ (S' : Sx) (H1 : Heap) (locs1 : List Loc), Gd S S' → LI E s.heap.size S' S' x z H1 → va_S (fun q : Nat => s.heap.size ≤ q) s.heap H1 locs1 → W p l e room_1 s m #[Value.ref b] below meth c H1 locs1 (10 + 3 * (k + 1)) (22957 + 44 * (k + 1)) Q (F0 m 1033 ls [])) : W p l e room_1 s m #[Value.ref b] below meth c H locs (10 + 3 * k) (22957 + 44 * k) Q (F0 m 283 ls []) := by
  obtain ⟨hx, hb, hr, hml, hown, hts0, hX, hbl, hlocks, hgv⟩ := C0
  have hts : ∀ w ∈ wsL_law, w.before #[Value.ref b] s = true := fun w h => hts0 w (wsL_law_in w h)
  have hown : s.vm.findClass RL = some m.cls := hown
  have hb : c.code = cL_law := hb
  have hbA : ¬ (fun q : Nat => s.heap.size ≤ q) b := Nat.not_le.mpr hbl
  refine lv_aload_n hx hb dL_law_283 rfl (lv_at hl 1 rfl) ?_
  refine sc_rd (j := 1) hx hb hX hbl hbA hS hl rfl rfl (by omega) hL (v := 1) (by decide) dL_law_284 dL_law_285 dL_law_286 dL_law_287 dL_law_288 ?_
  refine lc_C (As := [.int (xs (i + 1))]) (rest := []) (o := sp_kind S (xs (i + 1))) ⟨hx, hb, hml, hown, hts⟩ (fun A w D hR => cc_X3_kind l E A w (xs (i + 1)) hW hR hb9) (cwV 1 hts gL_law_X3_kind rfl rfl rfl (by decide +kernel) ⟨(Nat.le_of_ble_eq_true rfl), (Nat.le_of_ble_eq_true rfl)⟩) hT hI hS rfl rfl hl.1 (Nat.le_of_ble_eq_true rfl) dL_law_289 ⟨by show 10 + 3 * k + 0 ≤ 600000; omega, by show 22957 + 44 * k + 0 ≤ 7302250; omega⟩ (fun H locs hI hS => ?_)
  refine W.eq (g2 := F0 m 292 ls [.int (sp_kind S (xs (i + 1))).1]) rfl ?_
  refine lv_aload_n hx hb dL_law_292 rfl (lv_at hl 2 rfl) ?_
  refine sc_rd (j := 1) hx hb hX hbl hbA hS hl rfl rfl (by omega) hL (v := 1) (by decide) dL_law_293 dL_law_294 dL_law_295 dL_law_296 dL_law_297 ?_
  refine lc_M (As := [.int (xs (i + 1))]) (rest := [.int (sp_kind S (xs (i + 1))).1]) (o := sp_kind S (xs (i + 1))) ⟨hx, hb, hml, hown, hts⟩ (fun A w M tt hR => cc_X4_kind l E A w (xs (i + 1)) hW hR hb9) (cwV 1 hts gL_law_X4_kind rfl rfl rfl (by decide +kernel) ⟨(Nat.le_of_ble_eq_true rfl), (Nat.le_of_ble_eq_true rfl)⟩) hT hI hS rfl rfl hl.1 (Nat.le_of_ble_eq_true rfl) dL_law_298 ⟨by show 10 + 3 * k + 0 + 0 ≤ 600000; omega, by show 22957 + 44 * k + 0 + 0 ≤ 7302250; omega⟩ (fun H locs hI hS => ?_)
  refine W.eq (g2 := F0 m 301 ls [.int (sp_kind S (xs (i + 1))).1, .int (sp_kind S (xs (i + 1))).1]) rfl ?_
  refine lv_icmp_eq (tgt := 1033) hx hb dL_law_301 (by decide) (fun _ => ?_) (fun c9 => absurd rfl c9)
  refine W.widen (k := 10 + 3 * (k + 1)) (n := 22957 + 44 * (k + 1)) (by show 10 + 3 * k + 0 + 0 ≤ 10 + 3 * (k + 1); omega) (by show 22957 + 44 * k + 0 + 0 ≤ 22957 + 44 * (k + 1); omega) ?_
  exact next _ _ _ (gd_kind hW hb9 (xs (i + 1))) hI hS

set_option maxHeartbeats 4000000 in
set_option maxRecDepth 100000 in
theorem lwc_6 {p : Program} {l : Launch} {e : Env} {s : State} {m : MethodId} {below : List Frame} {meth : Method} {c : Code} {b L : Nat} {xs : Nat → Int32} {E : En} {i k x z : Nat} {S : Sx} {H : Heap} {locs : List Loc} {ls : Array Slot} {Q : State → Prop} (hL : L ≤ 3072) (C0 : lw_At p s m meth c b L xs) (hT : Tf E s) (hW : Wf S) (hb9 : sNr S < 512 ∧ sNt S < 512 ∧ sNl S < 512) (hk : k < 512) (hi : i + 5 < L) (hI : LI E s.heap.size S S x z H) (hS : va_S (fun q : Nat => s.heap.size ≤ q) s.heap H locs) (hl : lv_has ls 4 [(0, .ref b), (1, .ref x), (2, .ref z), (3, .int (nI i))])
    (next : ∀ (S' : Sx) (H1 : Heap) (locs1 : List Loc), Gd S S' → LI E s.heap.size S' S' x z H1 → va_S (fun q : Nat => s.heap.size ≤ q) s.heap H1 locs1 → W p l e room_1 s m #[Value.ref b] below meth c H1 locs1 (10 + 3 * (k + 1)) (22957 + 44 * (k + 1)) Q (F0 m 1033 ls [])) : W p l e room_1 s m #[Value.ref b] below meth c H locs (10 + 3 * k) (22957 + 44 * k) Q (F0 m 306 ls []) := by
  obtain ⟨hx, hb, hr, hml, hown, hts0, hX, hbl, hlocks, hgv⟩ := C0
  have hts : ∀ w ∈ wsL_law, w.before #[Value.ref b] s = true := fun w h => hts0 w (wsL_law_in w h)
  have hown : s.vm.findClass RL = some m.cls := hown
  have hb : c.code = cL_law := hb
  have hbA : ¬ (fun q : Nat => s.heap.size ≤ q) b := Nat.not_le.mpr hbl
  refine lv_aload_n hx hb dL_law_306 rfl (lv_at hl 1 rfl) ?_
  refine sc_rd (j := 1) hx hb hX hbl hbA hS hl rfl rfl (by omega) hL (v := 1) (by decide) dL_law_307 dL_law_308 dL_law_309 dL_law_310 dL_law_311 ?_
  refine lc_C (As := [.int (xs (i + 1))]) (rest := []) (o := sp_length S (xs (i + 1))) ⟨hx, hb, hml, hown, hts⟩ (fun A w D hR => cc_X3_length l E A w (xs (i + 1)) hW hR hb9) (cwV 1 hts gL_law_X3_length rfl rfl rfl (by decide +kernel) ⟨(Nat.le_of_ble_eq_true rfl), (Nat.le_of_ble_eq_true rfl)⟩) hT hI hS rfl rfl hl.1 (Nat.le_of_ble_eq_true rfl) dL_law_312 ⟨by show 10 + 3 * k + 0 ≤ 600000; omega, by show 22957 + 44 * k + 0 ≤ 7302250; omega⟩ (fun H locs hI hS => ?_)
  refine W.eq (g2 := F0 m 315 ls [.int (sp_length S (xs (i + 1))).1]) rfl ?_
  refine lv_aload_n hx hb dL_law_315 rfl (lv_at hl 2 rfl) ?_
  refine sc_rd (j := 1) hx hb hX hbl hbA hS hl rfl rfl (by omega) hL (v := 1) (by decide) dL_law_316 dL_law_317 dL_law_318 dL_law_319 dL_law_320 ?_
  refine lc_M (As := [.int (xs (i + 1))]) (rest := [.int (sp_length S (xs (i + 1))).1]) (o := sp_length S (xs (i + 1))) ⟨hx, hb, hml, hown, hts⟩ (fun A w M tt hR => cc_X4_length l E A w (xs (i + 1)) hW hR hb9) (cwV 1 hts gL_law_X4_length rfl rfl rfl (by decide +kernel) ⟨(Nat.le_of_ble_eq_true rfl), (Nat.le_of_ble_eq_true rfl)⟩) hT hI hS rfl rfl hl.1 (Nat.le_of_ble_eq_true rfl) dL_law_321 ⟨by show 10 + 3 * k + 0 + 0 ≤ 600000; omega, by show 22957 + 44 * k + 0 + 0 ≤ 7302250; omega⟩ (fun H locs hI hS => ?_)
  refine W.eq (g2 := F0 m 324 ls [.int (sp_length S (xs (i + 1))).1, .int (sp_length S (xs (i + 1))).1]) rfl ?_
  refine lv_icmp_eq (tgt := 1033) hx hb dL_law_324 (by decide) (fun _ => ?_) (fun c9 => absurd rfl c9)
  refine W.widen (k := 10 + 3 * (k + 1)) (n := 22957 + 44 * (k + 1)) (by show 10 + 3 * k + 0 + 0 ≤ 10 + 3 * (k + 1); omega) (by show 22957 + 44 * k + 0 + 0 ≤ 22957 + 44 * (k + 1); omega) ?_
  exact next _ _ _ (gd_length hW hb9 (xs (i + 1))) hI hS

set_option maxHeartbeats 4000000 in
set_option maxRecDepth 100000 in
theorem lwc_7 {p : Program} {l : Launch} {e : Env} {s : State} {m : MethodId} {below : List Frame} {meth : Method} {c : Code} {b L : Nat} {xs : Nat → Int32} {E : En} {i k x z : Nat} {S : Sx} {H : Heap} {locs : List Loc} {ls : Array Slot} {Q : State → Prop} (hL : L ≤ 3072) (C0 : lw_At p s m meth c b L xs) (hT : Tf E s) (hW : Wf S) (hb9 : sNr S < 512 ∧ sNt S < 512 ∧ sNl S < 512) (hk : k < 512) (hi : i + 5 < L) (hI : LI E s.heap.size S S x z H) (hS : va_S (fun q : Nat => s.heap.size ≤ q) s.heap H locs) (hl : lv_has ls 4 [(0, .ref b), (1, .ref x), (2, .ref z), (3, .int (nI i))])
    (next : ∀ (S' : Sx) (H1 : Heap) (locs1 : List Loc), Gd S S' → LI E s.heap.size S' S' x z H1 → va_S (fun q : Nat => s.heap.size ≤ q) s.heap H1 locs1 → W p l e room_1 s m #[Value.ref b] below meth c H1 locs1 (10 + 3 * (k + 1)) (22957 + 44 * (k + 1)) Q (F0 m 1033 ls [])) : W p l e room_1 s m #[Value.ref b] below meth c H locs (10 + 3 * k) (22957 + 44 * k) Q (F0 m 329 ls []) := by
  obtain ⟨hx, hb, hr, hml, hown, hts0, hX, hbl, hlocks, hgv⟩ := C0
  have hts : ∀ w ∈ wsL_law, w.before #[Value.ref b] s = true := fun w h => hts0 w (wsL_law_in w h)
  have hown : s.vm.findClass RL = some m.cls := hown
  have hb : c.code = cL_law := hb
  have hbA : ¬ (fun q : Nat => s.heap.size ≤ q) b := Nat.not_le.mpr hbl
  refine lv_aload_n hx hb dL_law_329 rfl (lv_at hl 1 rfl) ?_
  refine sc_rd (j := 1) hx hb hX hbl hbA hS hl rfl rfl (by omega) hL (v := 1) (by decide) dL_law_330 dL_law_331 dL_law_332 dL_law_333 dL_law_334 ?_
  refine sc_rd (j := 2) hx hb hX hbl hbA hS hl rfl rfl (by omega) hL (v := 2) (by decide) dL_law_335 dL_law_336 dL_law_337 dL_law_338 dL_law_339 ?_
  refine sc_rd (j := 3) hx hb hX hbl hbA hS hl rfl rfl (by omega) hL (v := 3) (by decide) dL_law_340 dL_law_341 dL_law_342 dL_law_343 dL_law_344 ?_
  refine lc_C (As := [.int (xs (i + 1)), .int (xs (i + 2)), .int (xs (i + 3))]) (rest := []) (o := sp_set S (xs (i + 1)) (xs (i + 2)) (xs (i + 3))) ⟨hx, hb, hml, hown, hts⟩ (fun A w D hR => cc_X3_set l E A w (xs (i + 1)) (xs (i + 2)) (xs (i + 3)) hW hR hb9) (cwV 3 hts gL_law_X3_set rfl rfl rfl (by decide +kernel) ⟨(Nat.le_of_ble_eq_true rfl), (Nat.le_of_ble_eq_true rfl)⟩) hT hI hS rfl rfl hl.1 (Nat.le_of_ble_eq_true rfl) dL_law_345 ⟨by show 10 + 3 * k + 0 ≤ 600000; omega, by show 22957 + 44 * k + 0 ≤ 7302250; omega⟩ (fun H locs hI hS => ?_)
  refine W.eq (g2 := F0 m 348 ls [.int (sp_set S (xs (i + 1)) (xs (i + 2)) (xs (i + 3))).1]) rfl ?_
  refine lv_aload_n hx hb dL_law_348 rfl (lv_at hl 2 rfl) ?_
  refine sc_rd (j := 1) hx hb hX hbl hbA hS hl rfl rfl (by omega) hL (v := 1) (by decide) dL_law_349 dL_law_350 dL_law_351 dL_law_352 dL_law_353 ?_
  refine sc_rd (j := 2) hx hb hX hbl hbA hS hl rfl rfl (by omega) hL (v := 2) (by decide) dL_law_354 dL_law_355 dL_law_356 dL_law_357 dL_law_358 ?_
  refine sc_rd (j := 3) hx hb hX hbl hbA hS hl rfl rfl (by omega) hL (v := 3) (by decide) dL_law_359 dL_law_360 dL_law_361 dL_law_362 dL_law_363 ?_
  refine lc_M (As := [.int (xs (i + 1)), .int (xs (i + 2)), .int (xs (i + 3))]) (rest := [.int (sp_set S (xs (i + 1)) (xs (i + 2)) (xs (i + 3))).1]) (o := sp_set S (xs (i + 1)) (xs (i + 2)) (xs (i + 3))) ⟨hx, hb, hml, hown, hts⟩ (fun A w M tt hR => cc_X4_set l E A w (xs (i + 1)) (xs (i + 2)) (xs (i + 3)) hW hR hb9) (cwV 3 hts gL_law_X4_set rfl rfl rfl (by decide +kernel) ⟨(Nat.le_of_ble_eq_true rfl), (Nat.le_of_ble_eq_true rfl)⟩) hT hI hS rfl rfl hl.1 (Nat.le_of_ble_eq_true rfl) dL_law_364 ⟨by show 10 + 3 * k + 0 + 0 ≤ 600000; omega, by show 22957 + 44 * k + 0 + 0 ≤ 7302250; omega⟩ (fun H locs hI hS => ?_)
  refine W.eq (g2 := F0 m 367 ls [.int (sp_set S (xs (i + 1)) (xs (i + 2)) (xs (i + 3))).1, .int (sp_set S (xs (i + 1)) (xs (i + 2)) (xs (i + 3))).1]) rfl ?_
  refine lv_icmp_eq (tgt := 1033) hx hb dL_law_367 (by decide) (fun _ => ?_) (fun c9 => absurd rfl c9)
  refine W.widen (k := 10 + 3 * (k + 1)) (n := 22957 + 44 * (k + 1)) (by show 10 + 3 * k + 0 + 0 ≤ 10 + 3 * (k + 1); omega) (by show 22957 + 44 * k + 0 + 0 ≤ 22957 + 44 * (k + 1); omega) ?_
  exact next _ _ _ (gd_set hW hb9 (xs (i + 1)) (xs (i + 2)) (xs (i + 3))) hI hS

set_option maxHeartbeats 4000000 in
set_option maxRecDepth 100000 in
theorem lwc_8 {p : Program} {l : Launch} {e : Env} {s : State} {m : MethodId} {below : List Frame} {meth : Method} {c : Code} {b L : Nat} {xs : Nat → Int32} {E : En} {i k x z : Nat} {S : Sx} {H : Heap} {locs : List Loc} {ls : Array Slot} {Q : State → Prop} (hL : L ≤ 3072) (C0 : lw_At p s m meth c b L xs) (hT : Tf E s) (hW : Wf S) (hb9 : sNr S < 512 ∧ sNt S < 512 ∧ sNl S < 512) (hk : k < 512) (hi : i + 5 < L) (hI : LI E s.heap.size S S x z H) (hS : va_S (fun q : Nat => s.heap.size ≤ q) s.heap H locs) (hl : lv_has ls 4 [(0, .ref b), (1, .ref x), (2, .ref z), (3, .int (nI i))])
    (next : ∀ (S' : Sx) (H1 : Heap) (locs1 : List Loc), Gd S S' → LI E s.heap.size S' S' x z H1 → va_S (fun q : Nat => s.heap.size ≤ q) s.heap H1 locs1 → W p l e room_1 s m #[Value.ref b] below meth c H1 locs1 (10 + 3 * (k + 1)) (22957 + 44 * (k + 1)) Q (F0 m 1033 ls [])) : W p l e room_1 s m #[Value.ref b] below meth c H locs (10 + 3 * k) (22957 + 44 * k) Q (F0 m 372 ls []) := by
  obtain ⟨hx, hb, hr, hml, hown, hts0, hX, hbl, hlocks, hgv⟩ := C0
  have hts : ∀ w ∈ wsL_law, w.before #[Value.ref b] s = true := fun w h => hts0 w (wsL_law_in w h)
  have hown : s.vm.findClass RL = some m.cls := hown
  have hb : c.code = cL_law := hb
  have hbA : ¬ (fun q : Nat => s.heap.size ≤ q) b := Nat.not_le.mpr hbl
  refine lv_aload_n hx hb dL_law_372 rfl (lv_at hl 1 rfl) ?_
  refine sc_rd (j := 1) hx hb hX hbl hbA hS hl rfl rfl (by omega) hL (v := 1) (by decide) dL_law_373 dL_law_374 dL_law_375 dL_law_376 dL_law_377 ?_
  refine sc_rd (j := 2) hx hb hX hbl hbA hS hl rfl rfl (by omega) hL (v := 2) (by decide) dL_law_378 dL_law_379 dL_law_380 dL_law_381 dL_law_382 ?_
  refine sc_rd (j := 3) hx hb hX hbl hbA hS hl rfl rfl (by omega) hL (v := 3) (by decide) dL_law_383 dL_law_384 dL_law_385 dL_law_386 dL_law_387 ?_
  refine sc_rd (j := 4) hx hb hX hbl hbA hS hl rfl rfl (by omega) hL (v := 4) (by decide) dL_law_388 dL_law_389 dL_law_390 dL_law_391 dL_law_392 ?_
  refine lc_C (As := [.int (xs (i + 1)), .int (xs (i + 2)), .int (xs (i + 3)), .int (xs (i + 4))]) (rest := []) (o := sp_thing S (xs (i + 1)) (xs (i + 2)) (xs (i + 3)) (xs (i + 4))) ⟨hx, hb, hml, hown, hts⟩ (fun A w D hR => cc_X3_thing l E A w (xs (i + 1)) (xs (i + 2)) (xs (i + 3)) (xs (i + 4)) hW hR hb9) (cwV 4 hts gL_law_X3_thing rfl rfl rfl (by decide +kernel) ⟨(Nat.le_of_ble_eq_true rfl), (Nat.le_of_ble_eq_true rfl)⟩) hT hI hS rfl rfl hl.1 (Nat.le_of_ble_eq_true rfl) dL_law_393 ⟨by show 10 + 3 * k + 1 ≤ 600000; omega, by show 22957 + 44 * k + 2 ≤ 7302250; omega⟩ (fun H locs hI hS => ?_)
  refine W.eq (g2 := F0 m 396 ls [.int (sp_thing S (xs (i + 1)) (xs (i + 2)) (xs (i + 3)) (xs (i + 4))).1]) rfl ?_
  refine lv_aload_n hx hb dL_law_396 rfl (lv_at hl 2 rfl) ?_
  refine sc_rd (j := 1) hx hb hX hbl hbA hS hl rfl rfl (by omega) hL (v := 1) (by decide) dL_law_397 dL_law_398 dL_law_399 dL_law_400 dL_law_401 ?_
  refine sc_rd (j := 2) hx hb hX hbl hbA hS hl rfl rfl (by omega) hL (v := 2) (by decide) dL_law_402 dL_law_403 dL_law_404 dL_law_405 dL_law_406 ?_
  refine sc_rd (j := 3) hx hb hX hbl hbA hS hl rfl rfl (by omega) hL (v := 3) (by decide) dL_law_407 dL_law_408 dL_law_409 dL_law_410 dL_law_411 ?_
  refine sc_rd (j := 4) hx hb hX hbl hbA hS hl rfl rfl (by omega) hL (v := 4) (by decide) dL_law_412 dL_law_413 dL_law_414 dL_law_415 dL_law_416 ?_
  refine lc_M (As := [.int (xs (i + 1)), .int (xs (i + 2)), .int (xs (i + 3)), .int (xs (i + 4))]) (rest := [.int (sp_thing S (xs (i + 1)) (xs (i + 2)) (xs (i + 3)) (xs (i + 4))).1]) (o := sp_thing S (xs (i + 1)) (xs (i + 2)) (xs (i + 3)) (xs (i + 4))) ⟨hx, hb, hml, hown, hts⟩ (fun A w M tt hR => cc_X4_thing l E A w (xs (i + 1)) (xs (i + 2)) (xs (i + 3)) (xs (i + 4)) hW hR hb9) (cwV 4 hts gL_law_X4_thing rfl rfl rfl (by decide +kernel) ⟨(Nat.le_of_ble_eq_true rfl), (Nat.le_of_ble_eq_true rfl)⟩) hT hI hS rfl rfl hl.1 (Nat.le_of_ble_eq_true rfl) dL_law_417 ⟨by show 10 + 3 * k + 1 + 0 ≤ 600000; omega, by show 22957 + 44 * k + 2 + 0 ≤ 7302250; omega⟩ (fun H locs hI hS => ?_)
  refine W.eq (g2 := F0 m 420 ls [.int (sp_thing S (xs (i + 1)) (xs (i + 2)) (xs (i + 3)) (xs (i + 4))).1, .int (sp_thing S (xs (i + 1)) (xs (i + 2)) (xs (i + 3)) (xs (i + 4))).1]) rfl ?_
  refine lv_icmp_eq (tgt := 1033) hx hb dL_law_420 (by decide) (fun _ => ?_) (fun c9 => absurd rfl c9)
  refine W.widen (k := 10 + 3 * (k + 1)) (n := 22957 + 44 * (k + 1)) (by show 10 + 3 * k + 1 + 0 ≤ 10 + 3 * (k + 1); omega) (by show 22957 + 44 * k + 2 + 0 ≤ 22957 + 44 * (k + 1); omega) ?_
  exact next _ _ _ (gd_thing hW hb9 (xs (i + 1)) (xs (i + 2)) (xs (i + 3)) (xs (i + 4))) hI hS

set_option maxHeartbeats 4000000 in
set_option maxRecDepth 100000 in
theorem lwc_9 {p : Program} {l : Launch} {e : Env} {s : State} {m : MethodId} {below : List Frame} {meth : Method} {c : Code} {b L : Nat} {xs : Nat → Int32} {E : En} {i k x z : Nat} {S : Sx} {H : Heap} {locs : List Loc} {ls : Array Slot} {Q : State → Prop} (hL : L ≤ 3072) (C0 : lw_At p s m meth c b L xs) (hT : Tf E s) (hW : Wf S) (hb9 : sNr S < 512 ∧ sNt S < 512 ∧ sNl S < 512) (hk : k < 512) (hi : i + 5 < L) (hI : LI E s.heap.size S S x z H) (hS : va_S (fun q : Nat => s.heap.size ≤ q) s.heap H locs) (hl : lv_has ls 4 [(0, .ref b), (1, .ref x), (2, .ref z), (3, .int (nI i))])
    (next : ∀ (S' : Sx) (H1 : Heap) (locs1 : List Loc), Gd S S' → LI E s.heap.size S' S' x z H1 → va_S (fun q : Nat => s.heap.size ≤ q) s.heap H1 locs1 → W p l e room_1 s m #[Value.ref b] below meth c H1 locs1 (10 + 3 * (k + 1)) (22957 + 44 * (k + 1)) Q (F0 m 1033 ls [])) : W p l e room_1 s m #[Value.ref b] below meth c H locs (10 + 3 * k) (22957 + 44 * k) Q (F0 m 425 ls []) := by
  obtain ⟨hx, hb, hr, hml, hown, hts0, hX, hbl, hlocks, hgv⟩ := C0
  have hts : ∀ w ∈ wsL_law, w.before #[Value.ref b] s = true := fun w h => hts0 w (wsL_law_in w h)
  have hown : s.vm.findClass RL = some m.cls := hown
  have hb : c.code = cL_law := hb
  have hbA : ¬ (fun q : Nat => s.heap.size ≤ q) b := Nat.not_le.mpr hbl
  refine lv_aload_n hx hb dL_law_425 rfl (lv_at hl 1 rfl) ?_
  refine sc_rd (j := 1) hx hb hX hbl hbA hS hl rfl rfl (by omega) hL (v := 1) (by decide) dL_law_426 dL_law_427 dL_law_428 dL_law_429 dL_law_430 ?_
  refine sc_rd (j := 2) hx hb hX hbl hbA hS hl rfl rfl (by omega) hL (v := 2) (by decide) dL_law_431 dL_law_432 dL_law_433 dL_law_434 dL_law_435 ?_
  refine sc_rd (j := 3) hx hb hX hbl hbA hS hl rfl rfl (by omega) hL (v := 3) (by decide) dL_law_436 dL_law_437 dL_law_438 dL_law_439 dL_law_440 ?_
  refine lc_C (As := [.int (xs (i + 1)), .int (xs (i + 2)), .int (xs (i + 3))]) (rest := []) (o := sp_hang S (xs (i + 1)) (xs (i + 2)) (xs (i + 3))) ⟨hx, hb, hml, hown, hts⟩ (fun A w D hR => cc_X3_hang l E A w (xs (i + 1)) (xs (i + 2)) (xs (i + 3)) hW hR hb9) (cwV 3 hts gL_law_X3_hang rfl rfl rfl (by decide +kernel) ⟨(Nat.le_of_ble_eq_true rfl), (Nat.le_of_ble_eq_true rfl)⟩) hT hI hS rfl rfl hl.1 (Nat.le_of_ble_eq_true rfl) dL_law_441 ⟨by show 10 + 3 * k + 0 ≤ 600000; omega, by show 22957 + 44 * k + 0 ≤ 7302250; omega⟩ (fun H locs hI hS => ?_)
  refine W.eq (g2 := F0 m 444 ls [.int (sp_hang S (xs (i + 1)) (xs (i + 2)) (xs (i + 3))).1]) rfl ?_
  refine lv_aload_n hx hb dL_law_444 rfl (lv_at hl 2 rfl) ?_
  refine sc_rd (j := 1) hx hb hX hbl hbA hS hl rfl rfl (by omega) hL (v := 1) (by decide) dL_law_445 dL_law_446 dL_law_447 dL_law_448 dL_law_449 ?_
  refine sc_rd (j := 2) hx hb hX hbl hbA hS hl rfl rfl (by omega) hL (v := 2) (by decide) dL_law_450 dL_law_451 dL_law_452 dL_law_453 dL_law_454 ?_
  refine sc_rd (j := 3) hx hb hX hbl hbA hS hl rfl rfl (by omega) hL (v := 3) (by decide) dL_law_455 dL_law_456 dL_law_457 dL_law_458 dL_law_459 ?_
  refine lc_M (As := [.int (xs (i + 1)), .int (xs (i + 2)), .int (xs (i + 3))]) (rest := [.int (sp_hang S (xs (i + 1)) (xs (i + 2)) (xs (i + 3))).1]) (o := sp_hang S (xs (i + 1)) (xs (i + 2)) (xs (i + 3))) ⟨hx, hb, hml, hown, hts⟩ (fun A w M tt hR => cc_X4_hang l E A w (xs (i + 1)) (xs (i + 2)) (xs (i + 3)) hW hR hb9) (cwV 3 hts gL_law_X4_hang rfl rfl rfl (by decide +kernel) ⟨(Nat.le_of_ble_eq_true rfl), (Nat.le_of_ble_eq_true rfl)⟩) hT hI hS rfl rfl hl.1 (Nat.le_of_ble_eq_true rfl) dL_law_460 ⟨by show 10 + 3 * k + 0 + 0 ≤ 600000; omega, by show 22957 + 44 * k + 0 + 0 ≤ 7302250; omega⟩ (fun H locs hI hS => ?_)
  refine W.eq (g2 := F0 m 463 ls [.int (sp_hang S (xs (i + 1)) (xs (i + 2)) (xs (i + 3))).1, .int (sp_hang S (xs (i + 1)) (xs (i + 2)) (xs (i + 3))).1]) rfl ?_
  refine lv_icmp_eq (tgt := 1033) hx hb dL_law_463 (by decide) (fun _ => ?_) (fun c9 => absurd rfl c9)
  refine W.widen (k := 10 + 3 * (k + 1)) (n := 22957 + 44 * (k + 1)) (by show 10 + 3 * k + 0 + 0 ≤ 10 + 3 * (k + 1); omega) (by show 22957 + 44 * k + 0 + 0 ≤ 22957 + 44 * (k + 1); omega) ?_
  exact next _ _ _ (gd_hang hW hb9 (xs (i + 1)) (xs (i + 2)) (xs (i + 3))) hI hS
