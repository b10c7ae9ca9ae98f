set_option maxHeartbeats 4000000 in
set_option maxRecDepth 100000 in
theorem lwc_15 {p : Program} {l : Launch} {e : Env} {s : State} {m : MethodId} {below : List Frame} {meth : Method} {c : Code} {b L : Nat} {xs : Nat → Int32} {E : En} {i k x z : Nat} {S : Sx} {H : Heap} {locs : List Loc} {ls : Array Slot} {Q : State → Prop} (hL : L ≤ 3072) (C0 : lw_At p s m meth c b L xs) (hT : Tf E s) (hW : Wf S) (hb9 : sNr S < 512 ∧ sNt S < 512 ∧ sNl S < 512) (hk : k < 512) (hi : i + 5 < L) (hI : LI E s.heap.size S S x z H) (hS : va_S (fun q : Nat => s.heap.size ≤ q) s.heap H locs) (hl : lv_has ls 4 [(0, .ref b), (1, .ref x), (2, .ref z), (3, .int (nI i))])
    (next : ∀ (S' : Sx) (H1 : Heap) (locs1 : List Loc), Gd S S' → LI E s.heap.size S' S' x z H1 → va_S (fun q : Nat => s.heap.size ≤ q) s.heap H1 locs1 → W p l e room_1 s m #[Value.ref b] below meth c H1 locs1 (10 + 3 * (k + 1)) (22957 + 44 * (k + 1)) Q (F0 m 1033 ls [])) : W p l e room_1 s m #[Value.ref b] below meth c H locs (10 + 3 * k) (22957 + 44 * k) Q (F0 m 693 ls []) := by
  obtain ⟨hx, hb, hr, hml, hown, hts0, hX, hbl, hlocks, hgv⟩ := C0
  have hts : ∀ w ∈ wsL_law, w.before #[Value.ref b] s = true := fun w h => hts0 w (wsL_law_in w h)
  have hown : s.vm.findClass RL = some m.cls := hown
  have hb : c.code = cL_law := hb
  have hbA : ¬ (fun q : Nat => s.heap.size ≤ q) b := Nat.not_le.mpr hbl
  refine lv_aload_n hx hb dL_law_693 rfl (lv_at hl 1 rfl) ?_
  refine sc_rd (j := 1) hx hb hX hbl hbA hS hl rfl rfl (by omega) hL (v := 1) (by decide) dL_law_694 dL_law_695 dL_law_696 dL_law_697 dL_law_698 ?_
  refine sc_rd (j := 2) hx hb hX hbl hbA hS hl rfl rfl (by omega) hL (v := 2) (by decide) dL_law_699 dL_law_700 dL_law_701 dL_law_702 dL_law_703 ?_
  refine sc_rd (j := 3) hx hb hX hbl hbA hS hl rfl rfl (by omega) hL (v := 3) (by decide) dL_law_704 dL_law_705 dL_law_706 dL_law_707 dL_law_708 ?_
  refine sc_rd (j := 4) hx hb hX hbl hbA hS hl rfl rfl (by omega) hL (v := 4) (by decide) dL_law_709 dL_law_710 dL_law_711 dL_law_712 dL_law_713 ?_
  refine lc_C (As := [.int (xs (i + 1)), .int (xs (i + 2)), .int (xs (i + 3)), .int (xs (i + 4))]) (rest := []) (o := sp_slice S (xs (i + 1)) (xs (i + 2)) (xs (i + 3)) (xs (i + 4))) ⟨hx, hb, hml, hown, hts⟩ (fun A w D hR => cc_X3_slice l E A w (xs (i + 1)) (xs (i + 2)) (xs (i + 3)) (xs (i + 4)) hW hR hb9) (cwV 4 hts gL_law_X3_slice rfl rfl rfl (by decide +kernel) ⟨(Nat.le_of_ble_eq_true rfl), (Nat.le_of_ble_eq_true rfl)⟩) hT hI hS rfl rfl hl.1 (Nat.le_of_ble_eq_true rfl) dL_law_714 ⟨by show 10 + 3 * k + 3 ≤ 600000; omega, by show 22957 + 44 * k + 44 ≤ 7302250; omega⟩ (fun H locs hI hS => ?_)
  refine W.eq (g2 := F0 m 717 ls [.int (sp_slice S (xs (i + 1)) (xs (i + 2)) (xs (i + 3)) (xs (i + 4))).1]) rfl ?_
  refine lv_aload_n hx hb dL_law_717 rfl (lv_at hl 2 rfl) ?_
  refine sc_rd (j := 1) hx hb hX hbl hbA hS hl rfl rfl (by omega) hL (v := 1) (by decide) dL_law_718 dL_law_719 dL_law_720 dL_law_721 dL_law_722 ?_
  refine sc_rd (j := 2) hx hb hX hbl hbA hS hl rfl rfl (by omega) hL (v := 2) (by decide) dL_law_723 dL_law_724 dL_law_725 dL_law_726 dL_law_727 ?_
  refine sc_rd (j := 3) hx hb hX hbl hbA hS hl rfl rfl (by omega) hL (v := 3) (by decide) dL_law_728 dL_law_729 dL_law_730 dL_law_731 dL_law_732 ?_
  refine sc_rd (j := 4) hx hb hX hbl hbA hS hl rfl rfl (by omega) hL (v := 4) (by decide) dL_law_733 dL_law_734 dL_law_735 dL_law_736 dL_law_737 ?_
  refine lc_M (As := [.int (xs (i + 1)), .int (xs (i + 2)), .int (xs (i + 3)), .int (xs (i + 4))]) (rest := [.int (sp_slice S (xs (i + 1)) (xs (i + 2)) (xs (i + 3)) (xs (i + 4))).1]) (o := sp_slice S (xs (i + 1)) (xs (i + 2)) (xs (i + 3)) (xs (i + 4))) ⟨hx, hb, hml, hown, hts⟩ (fun A w M tt hR => cc_X4_slice l E A w (xs (i + 1)) (xs (i + 2)) (xs (i + 3)) (xs (i + 4)) hW hR hb9) (cwV 4 hts gL_law_X4_slice rfl rfl rfl (by decide +kernel) ⟨(Nat.le_of_ble_eq_true rfl), (Nat.le_of_ble_eq_true rfl)⟩) hT hI hS rfl rfl hl.1 (Nat.le_of_ble_eq_true rfl) dL_law_738 ⟨by show 10 + 3 * k + 3 + 0 ≤ 600000; omega, by show 22957 + 44 * k + 44 + 0 ≤ 7302250; omega⟩ (fun H locs hI hS => ?_)
  refine W.eq (g2 := F0 m 741 ls [.int (sp_slice S (xs (i + 1)) (xs (i + 2)) (xs (i + 3)) (xs (i + 4))).1, .int (sp_slice S (xs (i + 1)) (xs (i + 2)) (xs (i + 3)) (xs (i + 4))).1]) rfl ?_
  refine lv_icmp_eq (tgt := 1033) hx hb dL_law_741 (by decide) (fun _ => ?_) (fun c9 => absurd rfl c9)
  refine W.widen (k := 10 + 3 * (k + 1)) (n := 22957 + 44 * (k + 1)) (by show 10 + 3 * k + 3 + 0 ≤ 10 + 3 * (k + 1); omega) (by show 22957 + 44 * k + 44 + 0 ≤ 22957 + 44 * (k + 1); omega) ?_
  exact next _ _ _ (gd_slice hW hb9 (xs (i + 1)) (xs (i + 2)) (xs (i + 3)) (xs (i + 4))) hI hS

set_option maxHeartbeats 4000000 in
set_option maxRecDepth 100000 in
theorem lwc_16 {p : Program} {l : Launch} {e : Env} {s : State} {m : MethodId} {below : List Frame} {meth : Method} {c : Code} {b L : Nat} {xs : Nat → Int32} {E : En} {i k x z : Nat} {S : Sx} {H : Heap} {locs : List Loc} {ls : Array Slot} {Q : State → Prop} (hL : L ≤ 3072) (C0 : lw_At p s m meth c b L xs) (hT : Tf E s) (hW : Wf S) (hb9 : sNr S < 512 ∧ sNt S < 512 ∧ sNl S < 512) (hk : k < 512) (hi : i + 5 < L) (hI : LI E s.heap.size S S x z H) (hS : va_S (fun q : Nat => s.heap.size ≤ q) s.heap H locs) (hl : lv_has ls 4 [(0, .ref b), (1, .ref x), (2, .ref z), (3, .int (nI i))])
    (next : ∀ (S' : Sx) (H1 : Heap) (locs1 : List Loc), Gd S S' → LI E s.heap.size S' S' x z H1 → va_S (fun q : Nat => s.heap.size ≤ q) s.heap H1 locs1 → W p l e room_1 s m #[Value.ref b] below meth c H1 locs1 (10 + 3 * (k + 1)) (22957 + 44 * (k + 1)) Q (F0 m 1033 ls [])) : W p l e room_1 s m #[Value.ref b] below meth c H locs (10 + 3 * k) (22957 + 44 * k) Q (F0 m 746 ls []) := by
  obtain ⟨hx, hb, hr, hml, hown, hts0, hX, hbl, hlocks, hgv⟩ := C0
  have hts : ∀ w ∈ wsL_law, w.before #[Value.ref b] s = true := fun w h => hts0 w (wsL_law_in w h)
  have hown : s.vm.findClass RL = some m.cls := hown
  have hb : c.code = cL_law := hb
  have hbA : ¬ (fun q : Nat => s.heap.size ≤ q) b := Nat.not_le.mpr hbl
  refine lv_aload_n hx hb dL_law_746 rfl (lv_at hl 1 rfl) ?_
  refine sc_rd (j := 1) hx hb hX hbl hbA hS hl rfl rfl (by omega) hL (v := 1) (by decide) dL_law_747 dL_law_748 dL_law_749 dL_law_750 dL_law_751 ?_
  refine sc_rd (j := 2) hx hb hX hbl hbA hS hl rfl rfl (by omega) hL (v := 2) (by decide) dL_law_752 dL_law_753 dL_law_754 dL_law_755 dL_law_756 ?_
  refine sc_rd (j := 3) hx hb hX hbl hbA hS hl rfl rfl (by omega) hL (v := 3) (by decide) dL_law_757 dL_law_758 dL_law_759 dL_law_760 dL_law_761 ?_
  refine lc_C (As := [.int (xs (i + 1)), .int (xs (i + 2)), .int (xs (i + 3))]) (rest := []) (o := sp_join S (xs (i + 1)) (xs (i + 2)) (xs (i + 3))) ⟨hx, hb, hml, hown, hts⟩ (fun A w D hR => cc_X3_join l E A w (xs (i + 1)) (xs (i + 2)) (xs (i + 3)) hW hR hb9) (cwV 3 hts gL_law_X3_join rfl rfl rfl (by decide +kernel) ⟨(Nat.le_of_ble_eq_true rfl), (Nat.le_of_ble_eq_true rfl)⟩) hT hI hS rfl rfl hl.1 (Nat.le_of_ble_eq_true rfl) dL_law_762 ⟨by show 10 + 3 * k + 3 ≤ 600000; omega, by show 22957 + 44 * k + 44 ≤ 7302250; omega⟩ (fun H locs hI hS => ?_)
  refine W.eq (g2 := F0 m 765 ls [.int (sp_join S (xs (i + 1)) (xs (i + 2)) (xs (i + 3))).1]) rfl ?_
  refine lv_aload_n hx hb dL_law_765 rfl (lv_at hl 2 rfl) ?_
  refine sc_rd (j := 1) hx hb hX hbl hbA hS hl rfl rfl (by omega) hL (v := 1) (by decide) dL_law_766 dL_law_767 dL_law_768 dL_law_769 dL_law_770 ?_
  refine sc_rd (j := 2) hx hb hX hbl hbA hS hl rfl rfl (by omega) hL (v := 2) (by decide) dL_law_771 dL_law_772 dL_law_773 dL_law_774 dL_law_775 ?_
  refine sc_rd (j := 3) hx hb hX hbl hbA hS hl rfl rfl (by omega) hL (v := 3) (by decide) dL_law_776 dL_law_777 dL_law_778 dL_law_779 dL_law_780 ?_
  refine lc_M (As := [.int (xs (i + 1)), .int (xs (i + 2)), .int (xs (i + 3))]) (rest := [.int (sp_join S (xs (i + 1)) (xs (i + 2)) (xs (i + 3))).1]) (o := sp_join S (xs (i + 1)) (xs (i + 2)) (xs (i + 3))) ⟨hx, hb, hml, hown, hts⟩ (fun A w M tt hR => cc_X4_join l E A w (xs (i + 1)) (xs (i + 2)) (xs (i + 3)) hW hR hb9) (cwV 3 hts gL_law_X4_join rfl rfl rfl (by decide +kernel) ⟨(Nat.le_of_ble_eq_true rfl), (Nat.le_of_ble_eq_true rfl)⟩) hT hI hS rfl rfl hl.1 (Nat.le_of_ble_eq_true rfl) dL_law_781 ⟨by show 10 + 3 * k + 3 + 0 ≤ 600000; omega, by show 22957 + 44 * k + 44 + 0 ≤ 7302250; omega⟩ (fun H locs hI hS => ?_)
  refine W.eq (g2 := F0 m 784 ls [.int (sp_join S (xs (i + 1)) (xs (i + 2)) (xs (i + 3))).1, .int (sp_join S (xs (i + 1)) (xs (i + 2)) (xs (i + 3))).1]) rfl ?_
  refine lv_icmp_eq (tgt := 1033) hx hb dL_law_784 (by decide) (fun _ => ?_) (fun c9 => absurd rfl c9)
  refine W.widen (k := 10 + 3 * (k + 1)) (n := 22957 + 44 * (k + 1)) (by show 10 + 3 * k + 3 + 0 ≤ 10 + 3 * (k + 1); omega) (by show 22957 + 44 * k + 44 + 0 ≤ 22957 + 44 * (k + 1); omega) ?_
  exact next _ _ _ (gd_join hW hb9 (xs (i + 1)) (xs (i + 2)) (xs (i + 3))) hI hS

set_option maxHeartbeats 4000000 in
set_option maxRecDepth 100000 in
theorem lwc_17 {p : Program} {l : Launch} {e : Env} {s : State} {m : MethodId} {below : List Frame} {meth : Method} {c : Code} {b L : Nat} {xs : Nat → Int32} {E : En} {i k x z : Nat} {S : Sx} {H : Heap} {locs : List Loc} {ls : Array Slot} {Q : State → Prop} (hL : L ≤ 3072) (C0 : lw_At p s m meth c b L xs) (hT : Tf E s) (hW : Wf S) (hb9 : sNr S < 512 ∧ sNt S < 512 ∧ sNl S < 512) (hk : k < 512) (hi : i + 5 < L) (hI : LI E s.heap.size S S x z H) (hS : va_S (fun q : Nat => s.heap.size ≤ q) s.heap H locs) (hl : lv_has ls 4 [(0, .ref b), (1, .ref x), (2, .ref z), (3, .int (nI i))])
    (next : ∀ (S' : Sx) (H1 : Heap) (locs1 : List Loc), Gd S S' → LI E s.heap.size S' S' x z H1 → va_S (fun q : Nat => s.heap.size ≤ q) s.heap H1 locs1 → W p l e room_1 s m #[Value.ref b] below meth c H1 locs1 (10 + 3 * (k + 1)) (22957 + 44 * (k + 1)) Q (F0 m 1033 ls [])) : W p l e room_1 s m #[Value.ref b] below meth c H locs (10 + 3 * k) (22957 + 44 * k) Q (F0 m 789 ls []) := by
  obtain ⟨hx, hb, hr, hml, hown, hts0, hX, hbl, hlocks, hgv⟩ := C0
  have hts : ∀ w ∈ wsL_law, w.before #[Value.ref b] s = true := fun w h => hts0 w (wsL_law_in w h)
  have hown : s.vm.findClass RL = some m.cls := hown
  have hb : c.code = cL_law := hb
  have hbA : ¬ (fun q : Nat => s.heap.size ≤ q) b := Nat.not_le.mpr hbl
  refine lv_aload_n hx hb dL_law_789 rfl (lv_at hl 1 rfl) ?_
  refine sc_rd (j := 1) hx hb hX hbl hbA hS hl rfl rfl (by omega) hL (v := 1) (by decide) dL_law_790 dL_law_791 dL_law_792 dL_law_793 dL_law_794 ?_
  refine sc_rd (j := 2) hx hb hX hbl hbA hS hl rfl rfl (by omega) hL (v := 2) (by decide) dL_law_795 dL_law_796 dL_law_797 dL_law_798 dL_law_799 ?_
  refine sc_rd (j := 3) hx hb hX hbl hbA hS hl rfl rfl (by omega) hL (v := 3) (by decide) dL_law_800 dL_law_801 dL_law_802 dL_law_803 dL_law_804 ?_
  refine lc_C (As := [.int (xs (i + 1)), .int (xs (i + 2)), .int (xs (i + 3))]) (rest := []) (o := sp_update S (xs (i + 1)) (xs (i + 2)) (xs (i + 3))) ⟨hx, hb, hml, hown, hts⟩ (fun A w D hR => cc_X3_update l E A w (xs (i + 1)) (xs (i + 2)) (xs (i + 3)) hW hR hb9) (cwV 3 hts gL_law_X3_update rfl rfl rfl (by decide +kernel) ⟨(Nat.le_of_ble_eq_true rfl), (Nat.le_of_ble_eq_true rfl)⟩) hT hI hS rfl rfl hl.1 (Nat.le_of_ble_eq_true rfl) dL_law_805 ⟨by show 10 + 3 * k + 0 ≤ 600000; omega, by show 22957 + 44 * k + 0 ≤ 7302250; omega⟩ (fun H locs hI hS => ?_)
  refine W.eq (g2 := F0 m 808 ls [.int (sp_update S (xs (i + 1)) (xs (i + 2)) (xs (i + 3))).1]) rfl ?_
  refine lv_aload_n hx hb dL_law_808 rfl (lv_at hl 2 rfl) ?_
  refine sc_rd (j := 1) hx hb hX hbl hbA hS hl rfl rfl (by omega) hL (v := 1) (by decide) dL_law_809 dL_law_810 dL_law_811 dL_law_812 dL_law_813 ?_
  refine sc_rd (j := 2) hx hb hX hbl hbA hS hl rfl rfl (by omega) hL (v := 2) (by decide) dL_law_814 dL_law_815 dL_law_816 dL_law_817 dL_law_818 ?_
  refine sc_rd (j := 3) hx hb hX hbl hbA hS hl rfl rfl (by omega) hL (v := 3) (by decide) dL_law_819 dL_law_820 dL_law_821 dL_law_822 dL_law_823 ?_
  refine lc_M (As := [.int (xs (i + 1)), .int (xs (i + 2)), .int (xs (i + 3))]) (rest := [.int (sp_update S (xs (i + 1)) (xs (i + 2)) (xs (i + 3))).1]) (o := sp_update S (xs (i + 1)) (xs (i + 2)) (xs (i + 3))) ⟨hx, hb, hml, hown, hts⟩ (fun A w M tt hR => cc_X4_update l E A w (xs (i + 1)) (xs (i + 2)) (xs (i + 3)) hW hR hb9) (cwV 3 hts gL_law_X4_update rfl rfl rfl (by decide +kernel) ⟨(Nat.le_of_ble_eq_true rfl), (Nat.le_of_ble_eq_true rfl)⟩) hT hI hS rfl rfl hl.1 (Nat.le_of_ble_eq_true rfl) dL_law_824 ⟨by show 10 + 3 * k + 0 + 0 ≤ 600000; omega, by show 22957 + 44 * k + 0 + 0 ≤ 7302250; omega⟩ (fun H locs hI hS => ?_)
  refine W.eq (g2 := F0 m 827 ls [.int (sp_update S (xs (i + 1)) (xs (i + 2)) (xs (i + 3))).1, .int (sp_update S (xs (i + 1)) (xs (i + 2)) (xs (i + 3))).1]) rfl ?_
  refine lv_icmp_eq (tgt := 1033) hx hb dL_law_827 (by decide) (fun _ => ?_) (fun c9 => absurd rfl c9)
  refine W.widen (k := 10 + 3 * (k + 1)) (n := 22957 + 44 * (k + 1)) (by show 10 + 3 * k + 0 + 0 ≤ 10 + 3 * (k + 1); omega) (by show 22957 + 44 * k + 0 + 0 ≤ 22957 + 44 * (k + 1); omega) ?_
  exact next _ _ _ (gd_update hW hb9 (xs (i + 1)) (xs (i + 2)) (xs (i + 3))) hI hS

set_option maxHeartbeats 4000000 in
set_option maxRecDepth 100000 in
theorem lwc_18 {p : Program} {l : Launch} {e : Env} {s : State} {m : MethodId} {below : List Frame} {meth : Method} {c : Code} {b L : Nat} {xs : Nat → Int32} {E : En} {i k x z : Nat} {S : Sx} {H : Heap} {locs : List Loc} {ls : Array Slot} {Q : State → Prop} (hL : L ≤ 3072) (C0 : lw_At p s m meth c b L xs) (hT : Tf E s) (hW : Wf S) (hb9 : sNr S < 512 ∧ sNt S < 512 ∧ sNl S < 512) (hk : k < 512) (hi : i + 5 < L) (hI : LI E s.heap.size S S x z H) (hS : va_S (fun q : Nat => s.heap.size ≤ q) s.heap H locs) (hl : lv_has ls 4 [(0, .ref b), (1, .ref x), (2, .ref z), (3, .int (nI i))])
    (next : ∀ (S' : Sx) (H1 : Heap) (locs1 : List Loc), Gd S S' → LI E s.heap.size S' S' x z H1 → va_S (fun q : Nat => s.heap.size ≤ q) s.heap H1 locs1 → W p l e room_1 s m #[Value.ref b] below meth c H1 locs1 (10 + 3 * (k + 1)) (22957 + 44 * (k + 1)) Q (F0 m 1033 ls [])) : W p l e room_1 s m #[Value.ref b] below meth c H locs (10 + 3 * k) (22957 + 44 * k) Q (F0 m 832 ls []) := by
  obtain ⟨hx, hb, hr, hml, hown, hts0, hX, hbl, hlocks, hgv⟩ := C0
  have hts : ∀ w ∈ wsL_law, w.before #[Value.ref b] s = true := fun w h => hts0 w (wsL_law_in w h)
  have hown : s.vm.findClass RL = some m.cls := hown
  have hb : c.code = cL_law := hb
  have hbA : ¬ (fun q : Nat => s.heap.size ≤ q) b := Nat.not_le.mpr hbl
  refine lv_aload_n hx hb dL_law_832 rfl (lv_at hl 1 rfl) ?_
  refine sc_rd (j := 1) hx hb hX hbl hbA hS hl rfl rfl (by omega) hL (v := 1) (by decide) dL_law_833 dL_law_834 dL_law_835 dL_law_836 dL_law_837 ?_
  refine sc_rd (j := 2) hx hb hX hbl hbA hS hl rfl rfl (by omega) hL (v := 2) (by decide) dL_law_838 dL_law_839 dL_law_840 dL_law_841 dL_law_842 ?_
  refine lc_C (As := [.int (xs (i + 1)), .int (xs (i + 2))]) (rest := []) (o := sp_rotate S (xs (i + 1)) (xs (i + 2))) ⟨hx, hb, hml, hown, hts⟩ (fun A w D hR => cc_X3_rotate l E A w (xs (i + 1)) (xs (i + 2)) hW hR hb9) (cwV 2 hts gL_law_X3_rotate rfl rfl rfl (by decide +kernel) ⟨(Nat.le_of_ble_eq_true rfl), (Nat.le_of_ble_eq_true rfl)⟩) hT hI hS rfl rfl hl.1 (Nat.le_of_ble_eq_true rfl) dL_law_843 ⟨by show 10 + 3 * k + 3 ≤ 600000; omega, by show 22957 + 44 * k + 44 ≤ 7302250; omega⟩ (fun H locs hI hS => ?_)
  refine W.eq (g2 := F0 m 846 ls [.int (sp_rotate S (xs (i + 1)) (xs (i + 2))).1]) rfl ?_
  refine lv_aload_n hx hb dL_law_846 rfl (lv_at hl 2 rfl) ?_
  refine sc_rd (j := 1) hx hb hX hbl hbA hS hl rfl rfl (by omega) hL (v := 1) (by decide) dL_law_847 dL_law_848 dL_law_849 dL_law_850 dL_law_851 ?_
  refine sc_rd (j := 2) hx hb hX hbl hbA hS hl rfl rfl (by omega) hL (v := 2) (by decide) dL_law_852 dL_law_853 dL_law_854 dL_law_855 dL_law_856 ?_
  refine lc_M (As := [.int (xs (i + 1)), .int (xs (i + 2))]) (rest := [.int (sp_rotate S (xs (i + 1)) (xs (i + 2))).1]) (o := sp_rotate S (xs (i + 1)) (xs (i + 2))) ⟨hx, hb, hml, hown, hts⟩ (fun A w M tt hR => cc_X4_rotate l E A w (xs (i + 1)) (xs (i + 2)) hW hR hb9) (cwV 2 hts gL_law_X4_rotate rfl rfl rfl (by decide +kernel) ⟨(Nat.le_of_ble_eq_true rfl), (Nat.le_of_ble_eq_true rfl)⟩) hT hI hS rfl rfl hl.1 (Nat.le_of_ble_eq_true rfl) dL_law_857 ⟨by show 10 + 3 * k + 3 + 0 ≤ 600000; omega, by show 22957 + 44 * k + 44 + 0 ≤ 7302250; omega⟩ (fun H locs hI hS => ?_)
  refine W.eq (g2 := F0 m 860 ls [.int (sp_rotate S (xs (i + 1)) (xs (i + 2))).1, .int (sp_rotate S (xs (i + 1)) (xs (i + 2))).1]) rfl ?_
  refine lv_icmp_eq (tgt := 1033) hx hb dL_law_860 (by decide) (fun _ => ?_) (fun c9 => absurd rfl c9)
  refine W.widen (k := 10 + 3 * (k + 1)) (n := 22957 + 44 * (k + 1)) (by show 10 + 3 * k + 3 + 0 ≤ 10 + 3 * (k + 1); omega) (by show 22957 + 44 * k + 44 + 0 ≤ 22957 + 44 * (k + 1); omega) ?_
  exact next _ _ _ (gd_rotate hW hb9 (xs (i + 1)) (xs (i + 2))) hI hS

set_option maxHeartbeats 4000000 in
set_option maxRecDepth 100000 in
theorem lwc_19 {p : Program} {l : Launch} {e : Env} {s : State} {m : MethodId} {below : List Frame} {meth : Method} {c : Code} {b L : Nat} {xs : Nat → Int32} {E : En} {i k x z : Nat} {S : Sx} {H : Heap} {locs : List Loc} {ls : Array Slot} {Q : State → Prop} (hL : L ≤ 3072) (C0 : lw_At p s m meth c b L xs) (hT : Tf E s) (hW : Wf S) (hb9 : sNr S < 512 ∧ sNt S < 512 ∧ sNl S < 512) (hk : k < 512) (hi : i + 5 < L) (hI : LI E s.heap.size S S x z H) (hS : va_S (fun q : Nat => s.heap.size ≤ q) s.heap H locs) (hl : lv_has ls 4 [(0, .ref b), (1, .ref x), (2, .ref z), (3, .int (nI i))])
    (next : ∀ (S' : Sx) (H1 : Heap) (locs1 : List Loc), Gd S S' → LI E s.heap.size S' S' x z H1 → va_S (fun q : Nat => s.heap.size ≤ q) s.heap H1 locs1 → W p l e room_1 s m #[Value.ref b] below meth c H1 locs1 (10 + 3 * (k + 1)) (22957 + 44 * (k + 1)) Q (F0 m 1033 ls [])) : W p l e room_1 s m #[Value.ref b] below meth c H locs (10 + 3 * k) (22957 + 44 * k) Q (F0 m 865 ls []) := by
  obtain ⟨hx, hb, hr, hml, hown, hts0, hX, hbl, hlocks, hgv⟩ := C0
  have hts : ∀ w ∈ wsL_law, w.before #[Value.ref b] s = true := fun w h => hts0 w (wsL_law_in w h)
  have hown : s.vm.findClass RL = some m.cls := hown
  have hb : c.code = cL_law := hb
  have hbA : ¬ (fun q : Nat => s.heap.size ≤ q) b := Nat.not_le.mpr hbl
  refine lv_aload_n hx hb dL_law_865 rfl (lv_at hl 1 rfl) ?_
  refine sc_rd (j := 1) hx hb hX hbl hbA hS hl rfl rfl (by omega) hL (v := 1) (by decide) dL_law_866 dL_law_867 dL_law_868 dL_law_869 dL_law_870 ?_
  refine lc_C (As := [.int (xs (i + 1))]) (rest := []) (o := sp_sum S (xs (i + 1))) ⟨hx, hb, hml, hown, hts⟩ (fun A w D hR => cc_X3_sum l E A w (xs (i + 1)) hW hR hb9) (cwV 1 hts gL_law_X3_sum rfl rfl rfl (by decide +kernel) ⟨(Nat.le_of_ble_eq_true rfl), (Nat.le_of_ble_eq_true rfl)⟩) hT hI hS rfl rfl hl.1 (Nat.le_of_ble_eq_true rfl) dL_law_871 ⟨by show 10 + 3 * k + 0 ≤ 600000; omega, by show 22957 + 44 * k + 0 ≤ 7302250; omega⟩ (fun H locs hI hS => ?_)
  refine W.eq (g2 := F0 m 874 ls [.int (sp_sum S (xs (i + 1))).1]) rfl ?_
  refine lv_aload_n hx hb dL_law_874 rfl (lv_at hl 2 rfl) ?_
  refine sc_rd (j := 1) hx hb hX hbl hbA hS hl rfl rfl (by omega) hL (v := 1) (by decide) dL_law_875 dL_law_876 dL_law_877 dL_law_878 dL_law_879 ?_
  refine lc_M (As := [.int (xs (i + 1))]) (rest := [.int (sp_sum S (xs (i + 1))).1]) (o := sp_sum S (xs (i + 1))) ⟨hx, hb, hml, hown, hts⟩ (fun A w M tt hR => cc_X4_sum l E A w (xs (i + 1)) hW hR hb9) (cwV 1 hts gL_law_X4_sum rfl rfl rfl (by decide +kernel) ⟨(Nat.le_of_ble_eq_true rfl), (Nat.le_of_ble_eq_true rfl)⟩) hT hI hS rfl rfl hl.1 (Nat.le_of_ble_eq_true rfl) dL_law_880 ⟨by show 10 + 3 * k + 0 + 0 ≤ 600000; omega, by show 22957 + 44 * k + 0 + 0 ≤ 7302250; omega⟩ (fun H locs hI hS => ?_)
  refine W.eq (g2 := F0 m 883 ls [.int (sp_sum S (xs (i + 1))).1, .int (sp_sum S (xs (i + 1))).1]) rfl ?_
  refine lv_icmp_eq (tgt := 1033) hx hb dL_law_883 (by decide) (fun _ => ?_) (fun c9 => absurd rfl c9)
  refine W.widen (k := 10 + 3 * (k + 1)) (n := 22957 + 44 * (k + 1)) (by show 10 + 3 * k + 0 + 0 ≤ 10 + 3 * (k + 1); omega) (by show 22957 + 44 * k + 0 + 0 ≤ 22957 + 44 * (k + 1); omega) ?_
  exact next _ _ _ (gd_sum hW hb9 (xs (i + 1))) hI hS
