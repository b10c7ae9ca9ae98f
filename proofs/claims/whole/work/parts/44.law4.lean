set_option maxHeartbeats 4000000 in
set_option maxRecDepth 100000 in
theorem lwc_20 {p : Program} {l : Launch} {e : Env} {s : State} {m : MethodId} {below : List Frame} {meth : Method} {c : Code} {b L : Nat} {xs : Nat → Int32} {E : En} {i k x z : Nat} {S : Sx} {H : Heap} {locs : List Loc} {ls : Array Slot} {Q : State → Prop} (hL : L ≤ 3072) (C0 : lw_At p s m meth c b L xs) (hT : Tf E s) (hW : Wf S) (hb9 : sNr S < 512 ∧ sNt S < 512 ∧ sNl S < 512) (hk : k < 512) (hi : i + 5 < L) (hI : LI E s.heap.size S S x z H) (hS : va_S (fun q : Nat => s.heap.size ≤ q) s.heap H locs) (hl : lv_has ls 4 [(0, .ref b), (1, .ref x), (2, .ref z), (3, .int (nI i))])
    (next : ∀ (S' : Sx) (H1 : Heap) (locs1 : List Loc), Gd S S' → LI E s.heap.size S' S' x z H1 → va_S (fun q : Nat => s.heap.size ≤ q) s.heap H1 locs1 → W p l e room_1 s m #[Value.ref b] below meth c H1 locs1 (10 + 3 * (k + 1)) (22957 + 44 * (k + 1)) Q (F0 m 1033 ls [])) : W p l e room_1 s m #[Value.ref b] below meth c H locs (10 + 3 * k) (22957 + 44 * k) Q (F0 m 888 ls []) := by
  obtain ⟨hx, hb, hr, hml, hown, hts0, hX, hbl, hlocks, hgv⟩ := C0
  have hts : ∀ w ∈ wsL_law, w.before #[Value.ref b] s = true := fun w h => hts0 w (wsL_law_in w h)
  have hown : s.vm.findClass RL = some m.cls := hown
  have hb : c.code = cL_law := hb
  have hbA : ¬ (fun q : Nat => s.heap.size ≤ q) b := Nat.not_le.mpr hbl
  refine lv_aload_n hx hb dL_law_888 rfl (lv_at hl 1 rfl) ?_
  refine sc_rd (j := 1) hx hb hX hbl hbA hS hl rfl rfl (by omega) hL (v := 1) (by decide) dL_law_889 dL_law_890 dL_law_891 dL_law_892 dL_law_893 ?_
  refine lc_C (As := [.int (xs (i + 1))]) (rest := []) (o := sp_mean S (xs (i + 1))) ⟨hx, hb, hml, hown, hts⟩ (fun A w D hR => cc_X3_mean l E A w (xs (i + 1)) hW hR hb9) (cwV 1 hts gL_law_X3_mean rfl rfl rfl (by decide +kernel) ⟨(Nat.le_of_ble_eq_true rfl), (Nat.le_of_ble_eq_true rfl)⟩) hT hI hS rfl rfl hl.1 (Nat.le_of_ble_eq_true rfl) dL_law_894 ⟨by show 10 + 3 * k + 0 ≤ 600000; omega, by show 22957 + 44 * k + 0 ≤ 7302250; omega⟩ (fun H locs hI hS => ?_)
  refine W.eq (g2 := F0 m 897 ls [.int (sp_mean S (xs (i + 1))).1]) rfl ?_
  refine lv_aload_n hx hb dL_law_897 rfl (lv_at hl 2 rfl) ?_
  refine sc_rd (j := 1) hx hb hX hbl hbA hS hl rfl rfl (by omega) hL (v := 1) (by decide) dL_law_898 dL_law_899 dL_law_900 dL_law_901 dL_law_902 ?_
  refine lc_M (As := [.int (xs (i + 1))]) (rest := [.int (sp_mean S (xs (i + 1))).1]) (o := sp_mean S (xs (i + 1))) ⟨hx, hb, hml, hown, hts⟩ (fun A w M tt hR => cc_X4_mean l E A w (xs (i + 1)) hW hR hb9) (cwV 1 hts gL_law_X4_mean rfl rfl rfl (by decide +kernel) ⟨(Nat.le_of_ble_eq_true rfl), (Nat.le_of_ble_eq_true rfl)⟩) hT hI hS rfl rfl hl.1 (Nat.le_of_ble_eq_true rfl) dL_law_903 ⟨by show 10 + 3 * k + 0 + 0 ≤ 600000; omega, by show 22957 + 44 * k + 0 + 0 ≤ 7302250; omega⟩ (fun H locs hI hS => ?_)
  refine W.eq (g2 := F0 m 906 ls [.int (sp_mean S (xs (i + 1))).1, .int (sp_mean S (xs (i + 1))).1]) rfl ?_
  refine lv_icmp_eq (tgt := 1033) hx hb dL_law_906 (by decide) (fun _ => ?_) (fun c9 => absurd rfl c9)
  refine W.widen (k := 10 + 3 * (k + 1)) (n := 22957 + 44 * (k + 1)) (by show 10 + 3 * k + 0 + 0 ≤ 10 + 3 * (k + 1); omega) (by show 22957 + 44 * k + 0 + 0 ≤ 22957 + 44 * (k + 1); omega) ?_
  exact next _ _ _ (gd_mean hW hb9 (xs (i + 1))) hI hS

set_option maxHeartbeats 4000000 in
set_option maxRecDepth 100000 in
theorem lwc_21 {p : Program} {l : Launch} {e : Env} {s : State} {m : MethodId} {below : List Frame} {meth : Method} {c : Code} {b L : Nat} {xs : Nat → Int32} {E : En} {i k x z : Nat} {S : Sx} {H : Heap} {locs : List Loc} {ls : Array Slot} {Q : State → Prop} (hL : L ≤ 3072) (C0 : lw_At p s m meth c b L xs) (hT : Tf E s) (hW : Wf S) (hb9 : sNr S < 512 ∧ sNt S < 512 ∧ sNl S < 512) (hk : k < 512) (hi : i + 5 < L) (hI : LI E s.heap.size S S x z H) (hS : va_S (fun q : Nat => s.heap.size ≤ q) s.heap H locs) (hl : lv_has ls 4 [(0, .ref b), (1, .ref x), (2, .ref z), (3, .int (nI i))])
    (next : ∀ (S' : Sx) (H1 : Heap) (locs1 : List Loc), Gd S S' → LI E s.heap.size S' S' x z H1 → va_S (fun q : Nat => s.heap.size ≤ q) s.heap H1 locs1 → W p l e room_1 s m #[Value.ref b] below meth c H1 locs1 (10 + 3 * (k + 1)) (22957 + 44 * (k + 1)) Q (F0 m 1033 ls [])) : W p l e room_1 s m #[Value.ref b] below meth c H locs (10 + 3 * k) (22957 + 44 * k) Q (F0 m 911 ls []) := by
  obtain ⟨hx, hb, hr, hml, hown, hts0, hX, hbl, hlocks, hgv⟩ := C0
  have hts : ∀ w ∈ wsL_law, w.before #[Value.ref b] s = true := fun w h => hts0 w (wsL_law_in w h)
  have hown : s.vm.findClass RL = some m.cls := hown
  have hb : c.code = cL_law := hb
  have hbA : ¬ (fun q : Nat => s.heap.size ≤ q) b := Nat.not_le.mpr hbl
  refine lv_aload_n hx hb dL_law_911 rfl (lv_at hl 1 rfl) ?_
  refine sc_rd (j := 1) hx hb hX hbl hbA hS hl rfl rfl (by omega) hL (v := 1) (by decide) dL_law_912 dL_law_913 dL_law_914 dL_law_915 dL_law_916 ?_
  refine sc_rd (j := 2) hx hb hX hbl hbA hS hl rfl rfl (by omega) hL (v := 2) (by decide) dL_law_917 dL_law_918 dL_law_919 dL_law_920 dL_law_921 ?_
  refine lc_C (As := [.int (xs (i + 1)), .int (xs (i + 2))]) (rest := []) (o := sp_same S (xs (i + 1)) (xs (i + 2))) ⟨hx, hb, hml, hown, hts⟩ (fun A w D hR => cc_X3_same l E A w (xs (i + 1)) (xs (i + 2)) hW hR hb9) (cwV 2 hts gL_law_X3_same rfl rfl rfl (by decide +kernel) ⟨(Nat.le_of_ble_eq_true rfl), (Nat.le_of_ble_eq_true rfl)⟩) hT hI hS rfl rfl hl.1 (Nat.le_of_ble_eq_true rfl) dL_law_922 ⟨by show 10 + 3 * k + 0 ≤ 600000; omega, by show 22957 + 44 * k + 0 ≤ 7302250; omega⟩ (fun H locs hI hS => ?_)
  refine W.eq (g2 := F0 m 925 ls [.int (sp_same S (xs (i + 1)) (xs (i + 2))).1]) rfl ?_
  refine lv_aload_n hx hb dL_law_925 rfl (lv_at hl 2 rfl) ?_
  refine sc_rd (j := 1) hx hb hX hbl hbA hS hl rfl rfl (by omega) hL (v := 1) (by decide) dL_law_926 dL_law_927 dL_law_928 dL_law_929 dL_law_930 ?_
  refine sc_rd (j := 2) hx hb hX hbl hbA hS hl rfl rfl (by omega) hL (v := 2) (by decide) dL_law_931 dL_law_932 dL_law_933 dL_law_934 dL_law_935 ?_
  refine lc_M (As := [.int (xs (i + 1)), .int (xs (i + 2))]) (rest := [.int (sp_same S (xs (i + 1)) (xs (i + 2))).1]) (o := sp_same S (xs (i + 1)) (xs (i + 2))) ⟨hx, hb, hml, hown, hts⟩ (fun A w M tt hR => cc_X4_same l E A w (xs (i + 1)) (xs (i + 2)) hW hR hb9) (cwV 2 hts gL_law_X4_same rfl rfl rfl (by decide +kernel) ⟨(Nat.le_of_ble_eq_true rfl), (Nat.le_of_ble_eq_true rfl)⟩) hT hI hS rfl rfl hl.1 (Nat.le_of_ble_eq_true rfl) dL_law_936 ⟨by show 10 + 3 * k + 0 + 0 ≤ 600000; omega, by show 22957 + 44 * k + 0 + 0 ≤ 7302250; omega⟩ (fun H locs hI hS => ?_)
  refine W.eq (g2 := F0 m 939 ls [.int (sp_same S (xs (i + 1)) (xs (i + 2))).1, .int (sp_same S (xs (i + 1)) (xs (i + 2))).1]) rfl ?_
  refine lv_icmp_eq (tgt := 1033) hx hb dL_law_939 (by decide) (fun _ => ?_) (fun c9 => absurd rfl c9)
  refine W.widen (k := 10 + 3 * (k + 1)) (n := 22957 + 44 * (k + 1)) (by show 10 + 3 * k + 0 + 0 ≤ 10 + 3 * (k + 1); omega) (by show 22957 + 44 * k + 0 + 0 ≤ 22957 + 44 * (k + 1); omega) ?_
  exact next _ _ _ (gd_same hW hb9 (xs (i + 1)) (xs (i + 2))) hI hS

set_option maxHeartbeats 4000000 in
set_option maxRecDepth 100000 in
theorem lwc_22 {p : Program} {l : Launch} {e : Env} {s : State} {m : MethodId} {below : List Frame} {meth : Method} {c : Code} {b L : Nat} {xs : Nat → Int32} {E : En} {i k x z : Nat} {S : Sx} {H : Heap} {locs : List Loc} {ls : Array Slot} {Q : State → Prop} (hL : L ≤ 3072) (C0 : lw_At p s m meth c b L xs) (hT : Tf E s) (hW : Wf S) (hb9 : sNr S < 512 ∧ sNt S < 512 ∧ sNl S < 512) (hk : k < 512) (hi : i + 5 < L) (hI : LI E s.heap.size S S x z H) (hS : va_S (fun q : Nat => s.heap.size ≤ q) s.heap H locs) (hl : lv_has ls 4 [(0, .ref b), (1, .ref x), (2, .ref z), (3, .int (nI i))])
    (next : ∀ (S' : Sx) (H1 : Heap) (locs1 : List Loc), Gd S S' → LI E s.heap.size S' S' x z H1 → va_S (fun q : Nat => s.heap.size ≤ q) s.heap H1 locs1 → W p l e room_1 s m #[Value.ref b] below meth c H1 locs1 (10 + 3 * (k + 1)) (22957 + 44 * (k + 1)) Q (F0 m 1033 ls [])) : W p l e room_1 s m #[Value.ref b] below meth c H locs (10 + 3 * k) (22957 + 44 * k) Q (F0 m 944 ls []) := by
  obtain ⟨hx, hb, hr, hml, hown, hts0, hX, hbl, hlocks, hgv⟩ := C0
  have hts : ∀ w ∈ wsL_law, w.before #[Value.ref b] s = true := fun w h => hts0 w (wsL_law_in w h)
  have hown : s.vm.findClass RL = some m.cls := hown
  have hb : c.code = cL_law := hb
  have hbA : ¬ (fun q : Nat => s.heap.size ≤ q) b := Nat.not_le.mpr hbl
  refine lv_aload_n hx hb dL_law_944 rfl (lv_at hl 1 rfl) ?_
  refine sc_rd (j := 1) hx hb hX hbl hbA hS hl rfl rfl (by omega) hL (v := 1) (by decide) dL_law_945 dL_law_946 dL_law_947 dL_law_948 dL_law_949 ?_
  refine sc_rd (j := 2) hx hb hX hbl hbA hS hl rfl rfl (by omega) hL (v := 2) (by decide) dL_law_950 dL_law_951 dL_law_952 dL_law_953 dL_law_954 ?_
  refine lc_C (As := [.int (xs (i + 1)), .int (xs (i + 2))]) (rest := []) (o := sp_equal S (xs (i + 1)) (xs (i + 2))) ⟨hx, hb, hml, hown, hts⟩ (fun A w D hR => cc_X3_equal l E A w (xs (i + 1)) (xs (i + 2)) hW hR hb9) (cwV 2 hts gL_law_X3_equal rfl rfl rfl (by decide +kernel) ⟨(Nat.le_of_ble_eq_true rfl), (Nat.le_of_ble_eq_true rfl)⟩) hT hI hS rfl rfl hl.1 (Nat.le_of_ble_eq_true rfl) dL_law_955 ⟨by show 10 + 3 * k + 0 ≤ 600000; omega, by show 22957 + 44 * k + 0 ≤ 7302250; omega⟩ (fun H locs hI hS => ?_)
  refine W.eq (g2 := F0 m 958 ls [.int (sp_equal S (xs (i + 1)) (xs (i + 2))).1]) rfl ?_
  refine lv_aload_n hx hb dL_law_958 rfl (lv_at hl 2 rfl) ?_
  refine sc_rd (j := 1) hx hb hX hbl hbA hS hl rfl rfl (by omega) hL (v := 1) (by decide) dL_law_959 dL_law_960 dL_law_961 dL_law_962 dL_law_963 ?_
  refine sc_rd (j := 2) hx hb hX hbl hbA hS hl rfl rfl (by omega) hL (v := 2) (by decide) dL_law_964 dL_law_965 dL_law_966 dL_law_967 dL_law_968 ?_
  refine lc_M (As := [.int (xs (i + 1)), .int (xs (i + 2))]) (rest := [.int (sp_equal S (xs (i + 1)) (xs (i + 2))).1]) (o := sp_equal S (xs (i + 1)) (xs (i + 2))) ⟨hx, hb, hml, hown, hts⟩ (fun A w M tt hR => cc_X4_equal l E A w (xs (i + 1)) (xs (i + 2)) hW hR hb9) (cwV 2 hts gL_law_X4_equal rfl rfl rfl (by decide +kernel) ⟨(Nat.le_of_ble_eq_true rfl), (Nat.le_of_ble_eq_true rfl)⟩) hT hI hS rfl rfl hl.1 (Nat.le_of_ble_eq_true rfl) dL_law_969 ⟨by show 10 + 3 * k + 0 + 0 ≤ 600000; omega, by show 22957 + 44 * k + 0 + 0 ≤ 7302250; omega⟩ (fun H locs hI hS => ?_)
  refine W.eq (g2 := F0 m 972 ls [.int (sp_equal S (xs (i + 1)) (xs (i + 2))).1, .int (sp_equal S (xs (i + 1)) (xs (i + 2))).1]) rfl ?_
  refine lv_icmp_eq (tgt := 1033) hx hb dL_law_972 (by decide) (fun _ => ?_) (fun c9 => absurd rfl c9)
  refine W.widen (k := 10 + 3 * (k + 1)) (n := 22957 + 44 * (k + 1)) (by show 10 + 3 * k + 0 + 0 ≤ 10 + 3 * (k + 1); omega) (by show 22957 + 44 * k + 0 + 0 ≤ 22957 + 44 * (k + 1); omega) ?_
  exact next _ _ _ (gd_equal hW hb9 (xs (i + 1)) (xs (i + 2))) hI hS

set_option maxHeartbeats 4000000 in
set_option maxRecDepth 100000 in
theorem lwc_23 {p : Program} {l : Launch} {e : Env} {s : State} {m : MethodId} {below : List Frame} {meth : Method} {c : Code} {b L : Nat} {xs : Nat → Int32} {E : En} {i k x z : Nat} {S : Sx} {H : Heap} {locs : List Loc} {ls : Array Slot} {Q : State → Prop} (hL : L ≤ 3072) (C0 : lw_At p s m meth c b L xs) (hT : Tf E s) (hW : Wf S) (hb9 : sNr S < 512 ∧ sNt S < 512 ∧ sNl S < 512) (hk : k < 512) (hi : i + 5 < L) (hI : LI E s.heap.size S S x z H) (hS : va_S (fun q : Nat => s.heap.size ≤ q) s.heap H locs) (hl : lv_has ls 4 [(0, .ref b), (1, .ref x), (2, .ref z), (3, .int (nI i))])
    (next : ∀ (S' : Sx) (H1 : Heap) (locs1 : List Loc), Gd S S' → LI E s.heap.size S' S' x z H1 → va_S (fun q : Nat => s.heap.size ≤ q) s.heap H1 locs1 → W p l e room_1 s m #[Value.ref b] below meth c H1 locs1 (10 + 3 * (k + 1)) (22957 + 44 * (k + 1)) Q (F0 m 1033 ls [])) : W p l e room_1 s m #[Value.ref b] below meth c H locs (10 + 3 * k) (22957 + 44 * k) Q (F0 m 977 ls []) := by
  obtain ⟨hx, hb, hr, hml, hown, hts0, hX, hbl, hlocks, hgv⟩ := C0
  have hts : ∀ w ∈ wsL_law, w.before #[Value.ref b] s = true := fun w h => hts0 w (wsL_law_in w h)
  have hown : s.vm.findClass RL = some m.cls := hown
  have hb : c.code = cL_law := hb
  have hbA : ¬ (fun q : Nat => s.heap.size ≤ q) b := Nat.not_le.mpr hbl
  refine lv_aload_n hx hb dL_law_977 rfl (lv_at hl 1 rfl) ?_
  refine sc_rd (j := 1) hx hb hX hbl hbA hS hl rfl rfl (by omega) hL (v := 1) (by decide) dL_law_978 dL_law_979 dL_law_980 dL_law_981 dL_law_982 ?_
  refine sc_rd (j := 2) hx hb hX hbl hbA hS hl rfl rfl (by omega) hL (v := 2) (by decide) dL_law_983 dL_law_984 dL_law_985 dL_law_986 dL_law_987 ?_
  refine lc_C (As := [.int (xs (i + 1)), .int (xs (i + 2))]) (rest := []) (o := sp_compare S (xs (i + 1)) (xs (i + 2))) ⟨hx, hb, hml, hown, hts⟩ (fun A w D hR => cc_X3_compare l E A w (xs (i + 1)) (xs (i + 2)) hW hR hb9) (cwV 2 hts gL_law_X3_compare rfl rfl rfl (by decide +kernel) ⟨(Nat.le_of_ble_eq_true rfl), (Nat.le_of_ble_eq_true rfl)⟩) hT hI hS rfl rfl hl.1 (Nat.le_of_ble_eq_true rfl) dL_law_988 ⟨by show 10 + 3 * k + 0 ≤ 600000; omega, by show 22957 + 44 * k + 0 ≤ 7302250; omega⟩ (fun H locs hI hS => ?_)
  refine W.eq (g2 := F0 m 991 ls [.int (sp_compare S (xs (i + 1)) (xs (i + 2))).1]) rfl ?_
  refine lv_aload_n hx hb dL_law_991 rfl (lv_at hl 2 rfl) ?_
  refine sc_rd (j := 1) hx hb hX hbl hbA hS hl rfl rfl (by omega) hL (v := 1) (by decide) dL_law_992 dL_law_993 dL_law_994 dL_law_995 dL_law_996 ?_
  refine sc_rd (j := 2) hx hb hX hbl hbA hS hl rfl rfl (by omega) hL (v := 2) (by decide) dL_law_997 dL_law_998 dL_law_999 dL_law_1000 dL_law_1001 ?_
  refine lc_M (As := [.int (xs (i + 1)), .int (xs (i + 2))]) (rest := [.int (sp_compare S (xs (i + 1)) (xs (i + 2))).1]) (o := sp_compare S (xs (i + 1)) (xs (i + 2))) ⟨hx, hb, hml, hown, hts⟩ (fun A w M tt hR => cc_X4_compare l E A w (xs (i + 1)) (xs (i + 2)) hW hR hb9) (cwV 2 hts gL_law_X4_compare rfl rfl rfl (by decide +kernel) ⟨(Nat.le_of_ble_eq_true rfl), (Nat.le_of_ble_eq_true rfl)⟩) hT hI hS rfl rfl hl.1 (Nat.le_of_ble_eq_true rfl) dL_law_1002 ⟨by show 10 + 3 * k + 0 + 0 ≤ 600000; omega, by show 22957 + 44 * k + 0 + 0 ≤ 7302250; omega⟩ (fun H locs hI hS => ?_)
  refine W.eq (g2 := F0 m 1005 ls [.int (sp_compare S (xs (i + 1)) (xs (i + 2))).1, .int (sp_compare S (xs (i + 1)) (xs (i + 2))).1]) rfl ?_
  refine lv_icmp_eq (tgt := 1033) hx hb dL_law_1005 (by decide) (fun _ => ?_) (fun c9 => absurd rfl c9)
  refine W.widen (k := 10 + 3 * (k + 1)) (n := 22957 + 44 * (k + 1)) (by show 10 + 3 * k + 0 + 0 ≤ 10 + 3 * (k + 1); omega) (by show 22957 + 44 * k + 0 + 0 ≤ 22957 + 44 * (k + 1); omega) ?_
  exact next _ _ _ (gd_compare hW hb9 (xs (i + 1)) (xs (i + 2))) hI hS

set_option maxHeartbeats 4000000 in
set_option maxRecDepth 100000 in
theorem lwc_24 {p : Program} {l : Launch} {e : Env} {s : State} {m : MethodId} {below : List Frame} {meth : Method} {c : Code} {b L : Nat} {xs : Nat → Int32} {E : En} {i k x z : Nat} {S : Sx} {H : Heap} {locs : List Loc} {ls : Array Slot} {Q : State → Prop} (hL : L ≤ 3072) (C0 : lw_At p s m meth c b L xs) (hT : Tf E s) (hW : Wf S) (hb9 : sNr S < 512 ∧ sNt S < 512 ∧ sNl S < 512) (hk : k < 512) (hi : i + 5 < L) (hI : LI E s.heap.size S S x z H) (hS : va_S (fun q : Nat => s.heap.size ≤ q) s.heap H locs) (hl : lv_has ls 4 [(0, .ref b), (1, .ref x), (2, .ref z), (3, .int (nI i))])
    (next : ∀ (S' : Sx) (H1 : Heap) (locs1 : List Loc), Gd S S' → LI E s.heap.size S' S' x z H1 → va_S (fun q : Nat => s.heap.size ≤ q) s.heap H1 locs1 → W p l e room_1 s m #[Value.ref b] below meth c H1 locs1 (10 + 3 * (k + 1)) (22957 + 44 * (k + 1)) Q (F0 m 1033 ls [])) : W p l e room_1 s m #[Value.ref b] below meth c H locs (10 + 3 * k) (22957 + 44 * k) Q (F0 m 1010 ls []) := by
  obtain ⟨hx, hb, hr, hml, hown, hts0, hX, hbl, hlocks, hgv⟩ := C0
  have hts : ∀ w ∈ wsL_law, w.before #[Value.ref b] s = true := fun w h => hts0 w (wsL_law_in w h)
  have hown : s.vm.findClass RL = some m.cls := hown
  have hb : c.code = cL_law := hb
  have hbA : ¬ (fun q : Nat => s.heap.size ≤ q) b := Nat.not_le.mpr hbl
  refine lv_aload_n hx hb dL_law_1010 rfl (lv_at hl 1 rfl) ?_
  refine sc_rd (j := 1) hx hb hX hbl hbA hS hl rfl rfl (by omega) hL (v := 1) (by decide) dL_law_1011 dL_law_1012 dL_law_1013 dL_law_1014 dL_law_1015 ?_
  refine lc_C (As := [.int (xs (i + 1))]) (rest := []) (o := sp_held S (xs (i + 1))) ⟨hx, hb, hml, hown, hts⟩ (fun A w D hR => cc_X3_held l E A w (xs (i + 1)) hW hR hb9) (cwV 1 hts gL_law_X3_held rfl rfl rfl (by decide +kernel) ⟨(Nat.le_of_ble_eq_true rfl), (Nat.le_of_ble_eq_true rfl)⟩) hT hI hS rfl rfl hl.1 (Nat.le_of_ble_eq_true rfl) dL_law_1016 ⟨by show 10 + 3 * k + 0 ≤ 600000; omega, by show 22957 + 44 * k + 0 ≤ 7302250; omega⟩ (fun H locs hI hS => ?_)
  refine W.eq (g2 := F0 m 1019 ls [.int (sp_held S (xs (i + 1))).1]) rfl ?_
  refine lv_aload_n hx hb dL_law_1019 rfl (lv_at hl 2 rfl) ?_
  refine sc_rd (j := 1) hx hb hX hbl hbA hS hl rfl rfl (by omega) hL (v := 1) (by decide) dL_law_1020 dL_law_1021 dL_law_1022 dL_law_1023 dL_law_1024 ?_
  refine lc_M (As := [.int (xs (i + 1))]) (rest := [.int (sp_held S (xs (i + 1))).1]) (o := sp_held S (xs (i + 1))) ⟨hx, hb, hml, hown, hts⟩ (fun A w M tt hR => cc_X4_held l E A w (xs (i + 1)) hW hR hb9) (cwV 1 hts gL_law_X4_held rfl rfl rfl (by decide +kernel) ⟨(Nat.le_of_ble_eq_true rfl), (Nat.le_of_ble_eq_true rfl)⟩) hT hI hS rfl rfl hl.1 (Nat.le_of_ble_eq_true rfl) dL_law_1025 ⟨by show 10 + 3 * k + 0 + 0 ≤ 600000; omega, by show 22957 + 44 * k + 0 + 0 ≤ 7302250; omega⟩ (fun H locs hI hS => ?_)
  refine W.eq (g2 := F0 m 1028 ls [.int (sp_held S (xs (i + 1))).1, .int (sp_held S (xs (i + 1))).1]) rfl ?_
  refine lv_icmp_eq (tgt := 1033) hx hb dL_law_1028 (by decide) (fun _ => ?_) (fun c9 => absurd rfl c9)
  refine W.widen (k := 10 + 3 * (k + 1)) (n := 22957 + 44 * (k + 1)) (by show 10 + 3 * k + 0 + 0 ≤ 10 + 3 * (k + 1); omega) (by show 22957 + 44 * k + 0 + 0 ≤ 22957 + 44 * (k + 1); omega) ?_
  exact next _ _ _ (gd_held hW hb9 (xs (i + 1))) hI hS
