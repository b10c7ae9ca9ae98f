set_option maxHeartbeats 4000000 in
set_option maxRecDepth 100000 in
theorem lwc_10 {p : Program} {l : Launch} {e : Env} {s : State} {m : MethodId} {below : List Frame} {meth : Method} {c : Code} {b L : Nat} {xs : Nat → Int32} {E : En} {i k x z : Nat} {S : Sx} {H : Heap} {locs : List Loc} {ls : Array Slot} {Q : State → Prop} (hL : L ≤ 3072) (C0 : lw_At p s m meth c b L xs) (hT : Tf E s) (hW : Wf S) (hb9 : sNr S < 512 ∧ sNt S < 512 ∧ sNl S < 512) (hk : k < 512) (hi : i + 5 < L) (hI : LI E s.heap.size S S x z H) (hS : va_S (fun q : Nat => s.heap.size ≤ q) s.heap H locs) (hl : lv_has ls 4 [(0, .ref b), (1, .ref x), (2, .ref z), (3, .int (nI i))])
    (next : ∀ (S' : Sx) (H1 : Heap) (locs1 : List Loc), Gd S S' → LI E s.heap.size S' S' x z H1 → va_S (fun q : Nat => s.heap.size ≤ q) s.heap H1 locs1 → W p l e room_1 s m #[Value.ref b] below meth c H1 locs1 (10 + 3 * (k + 1)) (22957 + 44 * (k + 1)) Q (F0 m 1033 ls [])) : W p l e room_1 s m #[Value.ref b] below meth c H locs (10 + 3 * k) (22957 + 44 * k) Q (F0 m 468 ls []) := by
  obtain ⟨hx, hb, hr, hml, hown, hts0, hX, hbl, hlocks, hgv⟩ := C0
  have hts : ∀ w ∈ wsL_law, w.before #[Value.ref b] s = true := fun w h => hts0 w (wsL_law_in w h)
  have hown : s.vm.findClass RL = some m.cls := hown
  have hb : c.code = cL_law := hb
  have hbA : ¬ (fun q : Nat => s.heap.size ≤ q) b := Nat.not_le.mpr hbl
  refine lv_aload_n hx hb dL_law_468 rfl (lv_at hl 1 rfl) ?_
  refine sc_rd (j := 1) hx hb hX hbl hbA hS hl rfl rfl (by omega) hL (v := 1) (by decide) dL_law_469 dL_law_470 dL_law_471 dL_law_472 dL_law_473 ?_
  refine sc_rd (j := 2) hx hb hX hbl hbA hS hl rfl rfl (by omega) hL (v := 2) (by decide) dL_law_474 dL_law_475 dL_law_476 dL_law_477 dL_law_478 ?_
  refine lc_C (As := [.int (xs (i + 1)), .int (xs (i + 2))]) (rest := []) (o := sp_item S (xs (i + 1)) (xs (i + 2))) ⟨hx, hb, hml, hown, hts⟩ (fun A w D hR => cc_X3_item l E A w (xs (i + 1)) (xs (i + 2)) hW hR hb9) (cwV 2 hts gL_law_X3_item rfl rfl rfl (by decide +kernel) ⟨(Nat.le_of_ble_eq_true rfl), (Nat.le_of_ble_eq_true rfl)⟩) hT hI hS rfl rfl hl.1 (Nat.le_of_ble_eq_true rfl) dL_law_479 ⟨by show 10 + 3 * k + 0 ≤ 600000; omega, by show 22957 + 44 * k + 0 ≤ 7302250; omega⟩ (fun H locs hI hS => ?_)
  refine W.eq (g2 := F0 m 482 ls [.int (sp_item S (xs (i + 1)) (xs (i + 2))).1]) rfl ?_
  refine lv_aload_n hx hb dL_law_482 rfl (lv_at hl 2 rfl) ?_
  refine sc_rd (j := 1) hx hb hX hbl hbA hS hl rfl rfl (by omega) hL (v := 1) (by decide) dL_law_483 dL_law_484 dL_law_485 dL_law_486 dL_law_487 ?_
  refine sc_rd (j := 2) hx hb hX hbl hbA hS hl rfl rfl (by omega) hL (v := 2) (by decide) dL_law_488 dL_law_489 dL_law_490 dL_law_491 dL_law_492 ?_
  refine lc_M (As := [.int (xs (i + 1)), .int (xs (i + 2))]) (rest := [.int (sp_item S (xs (i + 1)) (xs (i + 2))).1]) (o := sp_item S (xs (i + 1)) (xs (i + 2))) ⟨hx, hb, hml, hown, hts⟩ (fun A w M tt hR => cc_X4_item l E A w (xs (i + 1)) (xs (i + 2)) hW hR hb9) (cwV 2 hts gL_law_X4_item rfl rfl rfl (by decide +kernel) ⟨(Nat.le_of_ble_eq_true rfl), (Nat.le_of_ble_eq_true rfl)⟩) hT hI hS rfl rfl hl.1 (Nat.le_of_ble_eq_true rfl) dL_law_493 ⟨by show 10 + 3 * k + 0 + 0 ≤ 600000; omega, by show 22957 + 44 * k + 0 + 0 ≤ 7302250; omega⟩ (fun H locs hI hS => ?_)
  refine W.eq (g2 := F0 m 496 ls [.int (sp_item S (xs (i + 1)) (xs (i + 2))).1, .int (sp_item S (xs (i + 1)) (xs (i + 2))).1]) rfl ?_
  refine lv_icmp_eq (tgt := 1033) hx hb dL_law_496 (by decide) (fun _ => ?_) (fun c9 => absurd rfl c9)
  refine W.widen (k := 10 + 3 * (k + 1)) (n := 22957 + 44 * (k + 1)) (by show 10 + 3 * k + 0 + 0 ≤ 10 + 3 * (k + 1); omega) (by show 22957 + 44 * k + 0 + 0 ≤ 22957 + 44 * (k + 1); omega) ?_
  exact next _ _ _ (gd_item hW hb9 (xs (i + 1)) (xs (i + 2))) hI hS

set_option maxHeartbeats 4000000 in
set_option maxRecDepth 100000 in
theorem lwc_11 {p : Program} {l : Launch} {e : Env} {s : State} {m : MethodId} {below : List Frame} {meth : Method} {c : Code} {b L : Nat} {xs : Nat → Int32} {E : En} {i k x z : Nat} {S : Sx} {H : Heap} {locs : List Loc} {ls : Array Slot} {Q : State → Prop} (hL : L ≤ 3072) (C0 : lw_At p s m meth c b L xs) (hT : Tf E s) (hW : Wf S) (hb9 : sNr S < 512 ∧ sNt S < 512 ∧ sNl S < 512) (hk : k < 512) (hi : i + 5 < L) (hI : LI E s.heap.size S S x z H) (hS : va_S (fun q : Nat => s.heap.size ≤ q) s.heap H locs) (hl : lv_has ls 4 [(0, .ref b), (1, .ref x), (2, .ref z), (3, .int (nI i))])
    (next : ∀ (S' : Sx) (H1 : Heap) (locs1 : List Loc), Gd S S' → LI E s.heap.size S' S' x z H1 → va_S (fun q : Nat => s.heap.size ≤ q) s.heap H1 locs1 → W p l e room_1 s m #[Value.ref b] below meth c H1 locs1 (10 + 3 * (k + 1)) (22957 + 44 * (k + 1)) Q (F0 m 1033 ls [])) : W p l e room_1 s m #[Value.ref b] below meth c H locs (10 + 3 * k) (22957 + 44 * k) Q (F0 m 501 ls []) := by
  obtain ⟨hx, hb, hr, hml, hown, hts0, hX, hbl, hlocks, hgv⟩ := C0
  have hts : ∀ w ∈ wsL_law, w.before #[Value.ref b] s = true := fun w h => hts0 w (wsL_law_in w h)
  have hown : s.vm.findClass RL = some m.cls := hown
  have hb : c.code = cL_law := hb
  have hbA : ¬ (fun q : Nat => s.heap.size ≤ q) b := Nat.not_le.mpr hbl
  refine lv_aload_n hx hb dL_law_501 rfl (lv_at hl 1 rfl) ?_
  refine sc_rd (j := 1) hx hb hX hbl hbA hS hl rfl rfl (by omega) hL (v := 1) (by decide) dL_law_502 dL_law_503 dL_law_504 dL_law_505 dL_law_506 ?_
  refine sc_rd (j := 2) hx hb hX hbl hbA hS hl rfl rfl (by omega) hL (v := 2) (by decide) dL_law_507 dL_law_508 dL_law_509 dL_law_510 dL_law_511 ?_
  refine lc_C (As := [.int (xs (i + 1)), .int (xs (i + 2))]) (rest := []) (o := sp_classOf S (xs (i + 1)) (xs (i + 2))) ⟨hx, hb, hml, hown, hts⟩ (fun A w D hR => cc_X3_classOf l E A w (xs (i + 1)) (xs (i + 2)) hW hR hb9) (cwV 2 hts gL_law_X3_classOf rfl rfl rfl (by decide +kernel) ⟨(Nat.le_of_ble_eq_true rfl), (Nat.le_of_ble_eq_true rfl)⟩) hT hI hS rfl rfl hl.1 (Nat.le_of_ble_eq_true rfl) dL_law_512 ⟨by show 10 + 3 * k + 0 ≤ 600000; omega, by show 22957 + 44 * k + 0 ≤ 7302250; omega⟩ (fun H locs hI hS => ?_)
  refine W.eq (g2 := F0 m 515 ls [.int (sp_classOf S (xs (i + 1)) (xs (i + 2))).1]) rfl ?_
  refine lv_aload_n hx hb dL_law_515 rfl (lv_at hl 2 rfl) ?_
  refine sc_rd (j := 1) hx hb hX hbl hbA hS hl rfl rfl (by omega) hL (v := 1) (by decide) dL_law_516 dL_law_517 dL_law_518 dL_law_519 dL_law_520 ?_
  refine sc_rd (j := 2) hx hb hX hbl hbA hS hl rfl rfl (by omega) hL (v := 2) (by decide) dL_law_521 dL_law_522 dL_law_523 dL_law_524 dL_law_525 ?_
  refine lc_M (As := [.int (xs (i + 1)), .int (xs (i + 2))]) (rest := [.int (sp_classOf S (xs (i + 1)) (xs (i + 2))).1]) (o := sp_classOf S (xs (i + 1)) (xs (i + 2))) ⟨hx, hb, hml, hown, hts⟩ (fun A w M tt hR => cc_X4_classOf l E A w (xs (i + 1)) (xs (i + 2)) hW hR hb9) (cwV 2 hts gL_law_X4_classOf rfl rfl rfl (by decide +kernel) ⟨(Nat.le_of_ble_eq_true rfl), (Nat.le_of_ble_eq_true rfl)⟩) hT hI hS rfl rfl hl.1 (Nat.le_of_ble_eq_true rfl) dL_law_526 ⟨by show 10 + 3 * k + 0 + 0 ≤ 600000; omega, by show 22957 + 44 * k + 0 + 0 ≤ 7302250; omega⟩ (fun H locs hI hS => ?_)
  refine W.eq (g2 := F0 m 529 ls [.int (sp_classOf S (xs (i + 1)) (xs (i + 2))).1, .int (sp_classOf S (xs (i + 1)) (xs (i + 2))).1]) rfl ?_
  refine lv_icmp_eq (tgt := 1033) hx hb dL_law_529 (by decide) (fun _ => ?_) (fun c9 => absurd rfl c9)
  refine W.widen (k := 10 + 3 * (k + 1)) (n := 22957 + 44 * (k + 1)) (by show 10 + 3 * k + 0 + 0 ≤ 10 + 3 * (k + 1); omega) (by show 22957 + 44 * k + 0 + 0 ≤ 22957 + 44 * (k + 1); omega) ?_
  exact next _ _ _ (gd_classOf hW hb9 (xs (i + 1)) (xs (i + 2))) hI hS

set_option maxHeartbeats 4000000 in
set_option maxRecDepth 100000 in
theorem lwc_12 {p : Program} {l : Launch} {e : Env} {s : State} {m : MethodId} {below : List Frame} {meth : Method} {c : Code} {b L : Nat} {xs : Nat → Int32} {E : En} {i k x z : Nat} {S : Sx} {H : Heap} {locs : List Loc} {ls : Array Slot} {Q : State → Prop} (hL : L ≤ 3072) (C0 : lw_At p s m meth c b L xs) (hT : Tf E s) (hW : Wf S) (hb9 : sNr S < 512 ∧ sNt S < 512 ∧ sNl S < 512) (hk : k < 512) (hi : i + 5 < L) (hI : LI E s.heap.size S S x z H) (hS : va_S (fun q : Nat => s.heap.size ≤ q) s.heap H locs) (hl : lv_has ls 4 [(0, .ref b), (1, .ref x), (2, .ref z), (3, .int (nI i))])
    (next : ∀ (S' : Sx) (H1 : Heap) (locs1 : List Loc), Gd S S' → LI E s.heap.size S' S' x z H1 → va_S (fun q : Nat => s.heap.size ≤ q) s.heap H1 locs1 → W p l e room_1 s m #[Value.ref b] below meth c H1 locs1 (10 + 3 * (k + 1)) (22957 + 44 * (k + 1)) Q (F0 m 1033 ls [])) : W p l e room_1 s m #[Value.ref b] below meth c H locs (10 + 3 * k) (22957 + 44 * k) Q (F0 m 534 ls []) := by
  obtain ⟨hx, hb, hr, hml, hown, hts0, hX, hbl, hlocks, hgv⟩ := C0
  have hts : ∀ w ∈ wsL_law, w.before #[Value.ref b] s = true := fun w h => hts0 w (wsL_law_in w h)
  have hown : s.vm.findClass RL = some m.cls := hown
  have hb : c.code = cL_law := hb
  have hbA : ¬ (fun q : Nat => s.heap.size ≤ q) b := Nat.not_le.mpr hbl
  refine lv_aload_n hx hb dL_law_534 rfl (lv_at hl 1 rfl) ?_
  refine sc_rd (j := 1) hx hb hX hbl hbA hS hl rfl rfl (by omega) hL (v := 1) (by decide) dL_law_535 dL_law_536 dL_law_537 dL_law_538 dL_law_539 ?_
  refine sc_rd (j := 2) hx hb hX hbl hbA hS hl rfl rfl (by omega) hL (v := 2) (by decide) dL_law_540 dL_law_541 dL_law_542 dL_law_543 dL_law_544 ?_
  refine sc_rd (j := 3) hx hb hX hbl hbA hS hl rfl rfl (by omega) hL (v := 3) (by decide) dL_law_545 dL_law_546 dL_law_547 dL_law_548 dL_law_549 ?_
  refine sc_rd (j := 4) hx hb hX hbl hbA hS hl rfl rfl (by omega) hL (v := 4) (by decide) dL_law_550 dL_law_551 dL_law_552 dL_law_553 dL_law_554 ?_
  refine sc_rd (j := 5) hx hb hX hbl hbA hS hl rfl rfl (by omega) hL (v := 5) (by decide) dL_law_555 dL_law_556 dL_law_557 dL_law_558 dL_law_559 ?_
  refine lc_C (As := [.int (xs (i + 1)), .int (xs (i + 2)), .int (xs (i + 3)), .int (xs (i + 4)), .int (xs (i + 5))]) (rest := []) (o := sp_move S (xs (i + 1)) (xs (i + 2)) (xs (i + 3)) (xs (i + 4)) (xs (i + 5))) ⟨hx, hb, hml, hown, hts⟩ (fun A w D hR => cc_X3_move l E A w (xs (i + 1)) (xs (i + 2)) (xs (i + 3)) (xs (i + 4)) (xs (i + 5)) hW hR hb9) (cwV 5 hts gL_law_X3_move rfl rfl rfl (by decide +kernel) ⟨(Nat.le_of_ble_eq_true rfl), (Nat.le_of_ble_eq_true rfl)⟩) hT hI hS rfl rfl hl.1 (Nat.le_of_ble_eq_true rfl) dL_law_560 ⟨by show 10 + 3 * k + 0 ≤ 600000; omega, by show 22957 + 44 * k + 0 ≤ 7302250; omega⟩ (fun H locs hI hS => ?_)
  refine W.eq (g2 := F0 m 563 ls [.int (sp_move S (xs (i + 1)) (xs (i + 2)) (xs (i + 3)) (xs (i + 4)) (xs (i + 5))).1]) rfl ?_
  refine lv_aload_n hx hb dL_law_563 rfl (lv_at hl 2 rfl) ?_
  refine sc_rd (j := 1) hx hb hX hbl hbA hS hl rfl rfl (by omega) hL (v := 1) (by decide) dL_law_564 dL_law_565 dL_law_566 dL_law_567 dL_law_568 ?_
  refine sc_rd (j := 2) hx hb hX hbl hbA hS hl rfl rfl (by omega) hL (v := 2) (by decide) dL_law_569 dL_law_570 dL_law_571 dL_law_572 dL_law_573 ?_
  refine sc_rd (j := 3) hx hb hX hbl hbA hS hl rfl rfl (by omega) hL (v := 3) (by decide) dL_law_574 dL_law_575 dL_law_576 dL_law_577 dL_law_578 ?_
  refine sc_rd (j := 4) hx hb hX hbl hbA hS hl rfl rfl (by omega) hL (v := 4) (by decide) dL_law_579 dL_law_580 dL_law_581 dL_law_582 dL_law_583 ?_
  refine sc_rd (j := 5) hx hb hX hbl hbA hS hl rfl rfl (by omega) hL (v := 5) (by decide) dL_law_584 dL_law_585 dL_law_586 dL_law_587 dL_law_588 ?_
  refine lc_M (As := [.int (xs (i + 1)), .int (xs (i + 2)), .int (xs (i + 3)), .int (xs (i + 4)), .int (xs (i + 5))]) (rest := [.int (sp_move S (xs (i + 1)) (xs (i + 2)) (xs (i + 3)) (xs (i + 4)) (xs (i + 5))).1]) (o := sp_move S (xs (i + 1)) (xs (i + 2)) (xs (i + 3)) (xs (i + 4)) (xs (i + 5))) ⟨hx, hb, hml, hown, hts⟩ (fun A w M tt hR => cc_X4_move l E A w (xs (i + 1)) (xs (i + 2)) (xs (i + 3)) (xs (i + 4)) (xs (i + 5)) hW hR hb9) (cwV 5 hts gL_law_X4_move rfl rfl rfl (by decide +kernel) ⟨(Nat.le_of_ble_eq_true rfl), (Nat.le_of_ble_eq_true rfl)⟩) hT hI hS rfl rfl hl.1 (Nat.le_of_ble_eq_true rfl) dL_law_589 ⟨by show 10 + 3 * k + 0 + 0 ≤ 600000; omega, by show 22957 + 44 * k + 0 + 0 ≤ 7302250; omega⟩ (fun H locs hI hS => ?_)
  refine W.eq (g2 := F0 m 592 ls [.int (sp_move S (xs (i + 1)) (xs (i + 2)) (xs (i + 3)) (xs (i + 4)) (xs (i + 5))).1, .int (sp_move S (xs (i + 1)) (xs (i + 2)) (xs (i + 3)) (xs (i + 4)) (xs (i + 5))).1]) rfl ?_
  refine lv_icmp_eq (tgt := 1033) hx hb dL_law_592 (by decide) (fun _ => ?_) (fun c9 => absurd rfl c9)
  refine W.widen (k := 10 + 3 * (k + 1)) (n := 22957 + 44 * (k + 1)) (by show 10 + 3 * k + 0 + 0 ≤ 10 + 3 * (k + 1); omega) (by show 22957 + 44 * k + 0 + 0 ≤ 22957 + 44 * (k + 1); omega) ?_
  exact next _ _ _ (gd_move hW hb9 (xs (i + 1)) (xs (i + 2)) (xs (i + 3)) (xs (i + 4)) (xs (i + 5))) hI hS

set_option maxHeartbeats 4000000 in
set_option maxRecDepth 100000 in
theorem lwc_13 {p : Program} {l : Launch} {e : Env} {s : State} {m : MethodId} {below : List Frame} {meth : Method} {c : Code} {b L : Nat} {xs : Nat → Int32} {E : En} {i k x z : Nat} {S : Sx} {H : Heap} {locs : List Loc} {ls : Array Slot} {Q : State → Prop} (hL : L ≤ 3072) (C0 : lw_At p s m meth c b L xs) (hT : Tf E s) (hW : Wf S) (hb9 : sNr S < 512 ∧ sNt S < 512 ∧ sNl S < 512) (hk : k < 512) (hi : i + 5 < L) (hI : LI E s.heap.size S S x z H) (hS : va_S (fun q : Nat => s.heap.size ≤ q) s.heap H locs) (hl : lv_has ls 4 [(0, .ref b), (1, .ref x), (2, .ref z), (3, .int (nI i))])
    (next : ∀ (S' : Sx) (H1 : Heap) (locs1 : List Loc), Gd S S' → LI E s.heap.size S' S' x z H1 → va_S (fun q : Nat => s.heap.size ≤ q) s.heap H1 locs1 → W p l e room_1 s m #[Value.ref b] below meth c H1 locs1 (10 + 3 * (k + 1)) (22957 + 44 * (k + 1)) Q (F0 m 1033 ls [])) : W p l e room_1 s m #[Value.ref b] below meth c H locs (10 + 3 * k) (22957 + 44 * k) Q (F0 m 597 ls []) := by
  obtain ⟨hx, hb, hr, hml, hown, hts0, hX, hbl, hlocks, hgv⟩ := C0
  have hts : ∀ w ∈ wsL_law, w.before #[Value.ref b] s = true := fun w h => hts0 w (wsL_law_in w h)
  have hown : s.vm.findClass RL = some m.cls := hown
  have hb : c.code = cL_law := hb
  have hbA : ¬ (fun q : Nat => s.heap.size ≤ q) b := Nat.not_le.mpr hbl
  refine lv_aload_n hx hb dL_law_597 rfl (lv_at hl 1 rfl) ?_
  refine sc_rd (j := 1) hx hb hX hbl hbA hS hl rfl rfl (by omega) hL (v := 1) (by decide) dL_law_598 dL_law_599 dL_law_600 dL_law_601 dL_law_602 ?_
  refine sc_rd (j := 2) hx hb hX hbl hbA hS hl rfl rfl (by omega) hL (v := 2) (by decide) dL_law_603 dL_law_604 dL_law_605 dL_law_606 dL_law_607 ?_
  refine sc_rd (j := 3) hx hb hX hbl hbA hS hl rfl rfl (by omega) hL (v := 3) (by decide) dL_law_608 dL_law_609 dL_law_610 dL_law_611 dL_law_612 ?_
  refine sc_rd (j := 4) hx hb hX hbl hbA hS hl rfl rfl (by omega) hL (v := 4) (by decide) dL_law_613 dL_law_614 dL_law_615 dL_law_616 dL_law_617 ?_
  refine sc_rd (j := 5) hx hb hX hbl hbA hS hl rfl rfl (by omega) hL (v := 5) (by decide) dL_law_618 dL_law_619 dL_law_620 dL_law_621 dL_law_622 ?_
  refine lc_C (As := [.int (xs (i + 1)), .int (xs (i + 2)), .int (xs (i + 3)), .int (xs (i + 4)), .int (xs (i + 5))]) (rest := []) (o := sp_loop S (xs (i + 1)) (xs (i + 2)) (xs (i + 3)) (xs (i + 4)) (xs (i + 5))) ⟨hx, hb, hml, hown, hts⟩ (fun A w D hR => cc_X3_loop l E A w (xs (i + 1)) (xs (i + 2)) (xs (i + 3)) (xs (i + 4)) (xs (i + 5)) hW hR hb9) (cwV 5 hts gL_law_X3_loop rfl rfl rfl (by decide +kernel) ⟨(Nat.le_of_ble_eq_true rfl), (Nat.le_of_ble_eq_true rfl)⟩) hT hI hS rfl rfl hl.1 (Nat.le_of_ble_eq_true rfl) dL_law_623 ⟨by show 10 + 3 * k + 0 ≤ 600000; omega, by show 22957 + 44 * k + 0 ≤ 7302250; omega⟩ (fun H locs hI hS => ?_)
  refine W.eq (g2 := F0 m 626 ls [.int (sp_loop S (xs (i + 1)) (xs (i + 2)) (xs (i + 3)) (xs (i + 4)) (xs (i + 5))).1]) rfl ?_
  refine lv_aload_n hx hb dL_law_626 rfl (lv_at hl 2 rfl) ?_
  refine sc_rd (j := 1) hx hb hX hbl hbA hS hl rfl rfl (by omega) hL (v := 1) (by decide) dL_law_627 dL_law_628 dL_law_629 dL_law_630 dL_law_631 ?_
  refine sc_rd (j := 2) hx hb hX hbl hbA hS hl rfl rfl (by omega) hL (v := 2) (by decide) dL_law_632 dL_law_633 dL_law_634 dL_law_635 dL_law_636 ?_
  refine sc_rd (j := 3) hx hb hX hbl hbA hS hl rfl rfl (by omega) hL (v := 3) (by decide) dL_law_637 dL_law_638 dL_law_639 dL_law_640 dL_law_641 ?_
  refine sc_rd (j := 4) hx hb hX hbl hbA hS hl rfl rfl (by omega) hL (v := 4) (by decide) dL_law_642 dL_law_643 dL_law_644 dL_law_645 dL_law_646 ?_
  refine sc_rd (j := 5) hx hb hX hbl hbA hS hl rfl rfl (by omega) hL (v := 5) (by decide) dL_law_647 dL_law_648 dL_law_649 dL_law_650 dL_law_651 ?_
  refine lc_M (As := [.int (xs (i + 1)), .int (xs (i + 2)), .int (xs (i + 3)), .int (xs (i + 4)), .int (xs (i + 5))]) (rest := [.int (sp_loop S (xs (i + 1)) (xs (i + 2)) (xs (i + 3)) (xs (i + 4)) (xs (i + 5))).1]) (o := sp_loop S (xs (i + 1)) (xs (i + 2)) (xs (i + 3)) (xs (i + 4)) (xs (i + 5))) ⟨hx, hb, hml, hown, hts⟩ (fun A w M tt hR => cc_X4_loop l E A w (xs (i + 1)) (xs (i + 2)) (xs (i + 3)) (xs (i + 4)) (xs (i + 5)) hW hR hb9) (cwV 5 hts gL_law_X4_loop rfl rfl rfl (by decide +kernel) ⟨(Nat.le_of_ble_eq_true rfl), (Nat.le_of_ble_eq_true rfl)⟩) hT hI hS rfl rfl hl.1 (Nat.le_of_ble_eq_true rfl) dL_law_652 ⟨by show 10 + 3 * k + 0 + 0 ≤ 600000; omega, by show 22957 + 44 * k + 0 + 0 ≤ 7302250; omega⟩ (fun H locs hI hS => ?_)
  refine W.eq (g2 := F0 m 655 ls [.int (sp_loop S (xs (i + 1)) (xs (i + 2)) (xs (i + 3)) (xs (i + 4)) (xs (i + 5))).1, .int (sp_loop S (xs (i + 1)) (xs (i + 2)) (xs (i + 3)) (xs (i + 4)) (xs (i + 5))).1]) rfl ?_
  refine lv_icmp_eq (tgt := 1033) hx hb dL_law_655 (by decide) (fun _ => ?_) (fun c9 => absurd rfl c9)
  refine W.widen (k := 10 + 3 * (k + 1)) (n := 22957 + 44 * (k + 1)) (by show 10 + 3 * k + 0 + 0 ≤ 10 + 3 * (k + 1); omega) (by show 22957 + 44 * k + 0 + 0 ≤ 22957 + 44 * (k + 1); omega) ?_
  exact next _ _ _ (gd_loop hW hb9 (xs (i + 1)) (xs (i + 2)) (xs (i + 3)) (xs (i + 4)) (xs (i + 5))) hI hS

set_option maxHeartbeats 4000000 in
set_option maxRecDepth 100000 in
theorem lwc_14 {p : Program} {l : Launch} {e : Env} {s : State} {m : MethodId} {below : List Frame} {meth : Method} {c : Code} {b L : Nat} {xs : Nat → Int32} {E : En} {i k x z : Nat} {S : Sx} {H : Heap} {locs : List Loc} {ls : Array Slot} {Q : State → Prop} (hL : L ≤ 3072) (C0 : lw_At p s m meth c b L xs) (hT : Tf E s) (hW : Wf S) (hb9 : sNr S < 512 ∧ sNt S < 512 ∧ sNl S < 512) (hk : k < 512) (hi : i + 5 < L) (hI : LI E s.heap.size S S x z H) (hS : va_S (fun q : Nat => s.heap.size ≤ q) s.heap H locs) (hl : lv_has ls 4 [(0, .ref b), (1, .ref x), (2, .ref z), (3, .int (nI i))])
    (next : ∀ (S' : Sx) (H1 : Heap) (locs1 : List Loc), Gd S S' → LI E s.heap.size S' S' x z H1 → va_S (fun q : Nat => s.heap.size ≤ q) s.heap H1 locs1 → W p l e room_1 s m #[Value.ref b] below meth c H1 locs1 (10 + 3 * (k + 1)) (22957 + 44 * (k + 1)) Q (F0 m 1033 ls [])) : W p l e room_1 s m #[Value.ref b] below meth c H locs (10 + 3 * k) (22957 + 44 * k) Q (F0 m 660 ls []) := by
  obtain ⟨hx, hb, hr, hml, hown, hts0, hX, hbl, hlocks, hgv⟩ := C0
  have hts : ∀ w ∈ wsL_law, w.before #[Value.ref b] s = true := fun w h => hts0 w (wsL_law_in w h)
  have hown : s.vm.findClass RL = some m.cls := hown
  have hb : c.code = cL_law := hb
  have hbA : ¬ (fun q : Nat => s.heap.size ≤ q) b := Nat.not_le.mpr hbl
  refine lv_aload_n hx hb dL_law_660 rfl (lv_at hl 1 rfl) ?_
  refine sc_rd (j := 1) hx hb hX hbl hbA hS hl rfl rfl (by omega) hL (v := 1) (by decide) dL_law_661 dL_law_662 dL_law_663 dL_law_664 dL_law_665 ?_
  refine sc_rd (j := 2) hx hb hX hbl hbA hS hl rfl rfl (by omega) hL (v := 2) (by decide) dL_law_666 dL_law_667 dL_law_668 dL_law_669 dL_law_670 ?_
  refine lc_C (As := [.int (xs (i + 1)), .int (xs (i + 2))]) (rest := []) (o := sp_copy S (xs (i + 1)) (xs (i + 2))) ⟨hx, hb, hml, hown, hts⟩ (fun A w D hR => cc_X3_copy l E A w (xs (i + 1)) (xs (i + 2)) hW hR hb9) (cwV 2 hts gL_law_X3_copy rfl rfl rfl (by decide +kernel) ⟨(Nat.le_of_ble_eq_true rfl), (Nat.le_of_ble_eq_true rfl)⟩) hT hI hS rfl rfl hl.1 (Nat.le_of_ble_eq_true rfl) dL_law_671 ⟨by show 10 + 3 * k + 3 ≤ 600000; omega, by show 22957 + 44 * k + 44 ≤ 7302250; omega⟩ (fun H locs hI hS => ?_)
  refine W.eq (g2 := F0 m 674 ls [.int (sp_copy S (xs (i + 1)) (xs (i + 2))).1]) rfl ?_
  refine lv_aload_n hx hb dL_law_674 rfl (lv_at hl 2 rfl) ?_
  refine sc_rd (j := 1) hx hb hX hbl hbA hS hl rfl rfl (by omega) hL (v := 1) (by decide) dL_law_675 dL_law_676 dL_law_677 dL_law_678 dL_law_679 ?_
  refine sc_rd (j := 2) hx hb hX hbl hbA hS hl rfl rfl (by omega) hL (v := 2) (by decide) dL_law_680 dL_law_681 dL_law_682 dL_law_683 dL_law_684 ?_
  refine lc_M (As := [.int (xs (i + 1)), .int (xs (i + 2))]) (rest := [.int (sp_copy S (xs (i + 1)) (xs (i + 2))).1]) (o := sp_copy S (xs (i + 1)) (xs (i + 2))) ⟨hx, hb, hml, hown, hts⟩ (fun A w M tt hR => cc_X4_copy l E A w (xs (i + 1)) (xs (i + 2)) hW hR hb9) (cwV 2 hts gL_law_X4_copy rfl rfl rfl (by decide +kernel) ⟨(Nat.le_of_ble_eq_true rfl), (Nat.le_of_ble_eq_true rfl)⟩) hT hI hS rfl rfl hl.1 (Nat.le_of_ble_eq_true rfl) dL_law_685 ⟨by show 10 + 3 * k + 3 + 0 ≤ 600000; omega, by show 22957 + 44 * k + 44 + 0 ≤ 7302250; omega⟩ (fun H locs hI hS => ?_)
  refine W.eq (g2 := F0 m 688 ls [.int (sp_copy S (xs (i + 1)) (xs (i + 2))).1, .int (sp_copy S (xs (i + 1)) (xs (i + 2))).1]) rfl ?_
  refine lv_icmp_eq (tgt := 1033) hx hb dL_law_688 (by decide) (fun _ => ?_) (fun c9 => absurd rfl c9)
  refine W.widen (k := 10 + 3 * (k + 1)) (n := 22957 + 44 * (k + 1)) (by show 10 + 3 * k + 3 + 0 ≤ 10 + 3 * (k + 1); omega) (by show 22957 + 44 * k + 44 + 0 ≤ 22957 + 44 * (k + 1); omega) ?_
  exact next _ _ _ (gd_copy hW hb9 (xs (i + 1)) (xs (i + 2))) hI hS
