set_option maxHeartbeats 4000000 in
set_option maxRecDepth 100000 in
theorem lwc_0 {p : Program} {l : Launch} {e : Env} {s : State} {m : MethodId} {below : List Frame} {meth : Method} {c : Code} {b L : Nat} {xs : Nat → Int32} {E : En} {i k x z : Nat} {S : Sx} {H : Heap} {locs : List Loc} {ls : Array Slot} {Q : State → Prop} (hL : L ≤ 3072) (C0 : lw_At p s m meth c b L xs) (hT : Tf E s) (hW : Wf S) (hb9 : sNr S < 512 ∧ sNt S < 512 ∧ sNl S < 512) (hk : k < 512) (hi : i + 5 < L) (hI : LI E s.heap.size S S x z H) (hS : va_S (fun q : Nat => s.heap.size ≤ q) s.heap H locs) (hl : lv_has ls 4 [(0, .ref b), (1, .ref x), (2, .ref z), (3, .int (nI i))])
    (next : ∀ (S' : Sx) (H1 : Heap) (locs1 : List Loc), Gd S S' → LI E s.heap.size S' S' x z H1 → va_S (fun q : Nat => s.heap.size ≤ q) s.heap H1 locs1 → W p l e room_1 s m #[Value.ref b] below meth c H1 locs1 (10 + 3 * (k + 1)) (22957 + 44 * (k + 1)) Q (F0 m 1033 ls [])) : W p l e room_1 s m #[Value.ref b] below meth c H locs (10 + 3 * k) (22957 + 44 * k) Q (F0 m 148 ls []) := by
  obtain ⟨hx, hb, hr, hml, hown, hts0, hX, hbl, hlocks, hgv⟩ := C0
  have hts : ∀ w ∈ wsL_law, w.before #[Value.ref b] s = true := fun w h => hts0 w (wsL_law_in w h)
  have hown : s.vm.findClass RL = some m.cls := hown
  have hb : c.code = cL_law := hb
  have hbA : ¬ (fun q : Nat => s.heap.size ≤ q) b := Nat.not_le.mpr hbl
  refine lv_aload_n hx hb dL_law_148 rfl (lv_at hl 1 rfl) ?_
  refine lc_C (As := []) (rest := []) (o := sp_code S) ⟨hx, hb, hml, hown, hts⟩ (fun A w D hR => cc_X3_code l E A w  hW hR) (cwV 0 hts gL_law_X3_code rfl rfl rfl (by decide +kernel) ⟨(Nat.le_of_ble_eq_true rfl), (Nat.le_of_ble_eq_true rfl)⟩) hT hI hS rfl rfl hl.1 (Nat.le_of_ble_eq_true rfl) dL_law_149 ⟨by show 10 + 3 * k + 0 ≤ 600000; omega, by show 22957 + 44 * k + 0 ≤ 7302250; omega⟩ (fun H locs hI hS => ?_)
  refine W.eq (g2 := F0 m 152 ls [.int (sp_code S).1]) rfl ?_
  refine lv_aload_n hx hb dL_law_152 rfl (lv_at hl 2 rfl) ?_
  refine lc_M (As := []) (rest := [.int (sp_code S).1]) (o := sp_code S) ⟨hx, hb, hml, hown, hts⟩ (fun A w M tt hR => cc_X4_code l E A w  hW hR) (cwV 0 hts gL_law_X4_code rfl rfl rfl (by decide +kernel) ⟨(Nat.le_of_ble_eq_true rfl), (Nat.le_of_ble_eq_true rfl)⟩) hT hI hS rfl rfl hl.1 (Nat.le_of_ble_eq_true rfl) dL_law_153 ⟨by show 10 + 3 * k + 0 + 0 ≤ 600000; omega, by show 22957 + 44 * k + 0 + 0 ≤ 7302250; omega⟩ (fun H locs hI hS => ?_)
  refine W.eq (g2 := F0 m 156 ls [.int (sp_code S).1, .int (sp_code S).1]) rfl ?_
  refine lv_icmp_eq (tgt := 1033) hx hb dL_law_156 (by decide) (fun _ => ?_) (fun c9 => absurd rfl c9)
  refine W.widen (k := 10 + 3 * (k + 1)) (n := 22957 + 44 * (k + 1)) (by show 10 + 3 * k + 0 + 0 ≤ 10 + 3 * (k + 1); omega) (by show 22957 + 44 * k + 0 + 0 ≤ 22957 + 44 * (k + 1); omega) ?_
  exact next _ _ _ (gd_code hW hb9 ) hI hS

set_option maxHeartbeats 4000000 in
set_option maxRecDepth 100000 in
theorem lwc_1 {p : Program} {l : Launch} {e : Env} {s : State} {m : MethodId} {below : List Frame} {meth : Method} {c : Code} {b L : Nat} {xs : Nat → Int32} {E : En} {i k x z : Nat} {S : Sx} {H : Heap} {locs : List Loc} {ls : Array Slot} {Q : State → Prop} (hL : L ≤ 3072) (C0 : lw_At p s m meth c b L xs) (hT : Tf E s) (hW : Wf S) (hb9 : sNr S < 512 ∧ sNt S < 512 ∧ sNl S < 512) (hk : k < 512) (hi : i + 5 < L) (hI : LI E s.heap.size S S x z H) (hS : va_S (fun q : Nat => s.heap.size ≤ q) s.heap H locs) (hl : lv_has ls 4 [(0, .ref b), (1, .ref x), (2, .ref z), (3, .int (nI i))])
    (next : ∀ (S' : Sx) (H1 : Heap) (locs1 : List Loc), Gd S S' → LI E s.heap.size S' S' x z H1 → va_S (fun q : Nat => s.heap.size ≤ q) s.heap H1 locs1 → W p l e room_1 s m #[Value.ref b] below meth c H1 locs1 (10 + 3 * (k + 1)) (22957 + 44 * (k + 1)) Q (F0 m 1033 ls [])) : W p l e room_1 s m #[Value.ref b] below meth c H locs (10 + 3 * k) (22957 + 44 * k) Q (F0 m 161 ls []) := by
  obtain ⟨hx, hb, hr, hml, hown, hts0, hX, hbl, hlocks, hgv⟩ := C0
  have hts : ∀ w ∈ wsL_law, w.before #[Value.ref b] s = true := fun w h => hts0 w (wsL_law_in w h)
  have hown : s.vm.findClass RL = some m.cls := hown
  have hb : c.code = cL_law := hb
  have hbA : ¬ (fun q : Nat => s.heap.size ≤ q) b := Nat.not_le.mpr hbl
  refine lv_aload_n hx hb dL_law_161 rfl (lv_at hl 1 rfl) ?_
  refine sc_rd (j := 1) hx hb hX hbl hbA hS hl rfl rfl (by omega) hL (v := 1) (by decide) dL_law_162 dL_law_163 dL_law_164 dL_law_165 dL_law_166 ?_
  refine sc_rd (j := 2) hx hb hX hbl hbA hS hl rfl rfl (by omega) hL (v := 2) (by decide) dL_law_167 dL_law_168 dL_law_169 dL_law_170 dL_law_171 ?_
  refine sc_rd (j := 3) hx hb hX hbl hbA hS hl rfl rfl (by omega) hL (v := 3) (by decide) dL_law_172 dL_law_173 dL_law_174 dL_law_175 dL_law_176 ?_
  refine lc_C (As := [.int (xs (i + 1)), .int (xs (i + 2)), .int (xs (i + 3))]) (rest := []) (o := sp_make S (xs (i + 1)) (xs (i + 2)) (xs (i + 3))) ⟨hx, hb, hml, hown, hts⟩ (fun A w D hR => cc_X3_make l E A w (xs (i + 1)) (xs (i + 2)) (xs (i + 3)) hW hR hb9) (cwV 3 hts gL_law_X3_make rfl rfl rfl (by decide +kernel) ⟨(Nat.le_of_ble_eq_true rfl), (Nat.le_of_ble_eq_true rfl)⟩) hT hI hS rfl rfl hl.1 (Nat.le_of_ble_eq_true rfl) dL_law_177 ⟨by show 10 + 3 * k + 3 ≤ 600000; omega, by show 22957 + 44 * k + 44 ≤ 7302250; omega⟩ (fun H locs hI hS => ?_)
  refine W.eq (g2 := F0 m 180 ls [.int (sp_make S (xs (i + 1)) (xs (i + 2)) (xs (i + 3))).1]) rfl ?_
  refine lv_aload_n hx hb dL_law_180 rfl (lv_at hl 2 rfl) ?_
  refine sc_rd (j := 1) hx hb hX hbl hbA hS hl rfl rfl (by omega) hL (v := 1) (by decide) dL_law_181 dL_law_182 dL_law_183 dL_law_184 dL_law_185 ?_
  refine sc_rd (j := 2) hx hb hX hbl hbA hS hl rfl rfl (by omega) hL (v := 2) (by decide) dL_law_186 dL_law_187 dL_law_188 dL_law_189 dL_law_190 ?_
  refine sc_rd (j := 3) hx hb hX hbl hbA hS hl rfl rfl (by omega) hL (v := 3) (by decide) dL_law_191 dL_law_192 dL_law_193 dL_law_194 dL_law_195 ?_
  refine lc_M (As := [.int (xs (i + 1)), .int (xs (i + 2)), .int (xs (i + 3))]) (rest := [.int (sp_make S (xs (i + 1)) (xs (i + 2)) (xs (i + 3))).1]) (o := sp_make S (xs (i + 1)) (xs (i + 2)) (xs (i + 3))) ⟨hx, hb, hml, hown, hts⟩ (fun A w M tt hR => cc_X4_make l E A w (xs (i + 1)) (xs (i + 2)) (xs (i + 3)) hW hR hb9) (cwV 3 hts gL_law_X4_make rfl rfl rfl (by decide +kernel) ⟨(Nat.le_of_ble_eq_true rfl), (Nat.le_of_ble_eq_true rfl)⟩) hT hI hS rfl rfl hl.1 (Nat.le_of_ble_eq_true rfl) dL_law_196 ⟨by show 10 + 3 * k + 3 + 0 ≤ 600000; omega, by show 22957 + 44 * k + 44 + 0 ≤ 7302250; omega⟩ (fun H locs hI hS => ?_)
  refine W.eq (g2 := F0 m 199 ls [.int (sp_make S (xs (i + 1)) (xs (i + 2)) (xs (i + 3))).1, .int (sp_make S (xs (i + 1)) (xs (i + 2)) (xs (i + 3))).1]) rfl ?_
  refine lv_icmp_eq (tgt := 1033) hx hb dL_law_199 (by decide) (fun _ => ?_) (fun c9 => absurd rfl c9)
  refine W.widen (k := 10 + 3 * (k + 1)) (n := 22957 + 44 * (k + 1)) (by show 10 + 3 * k + 3 + 0 ≤ 10 + 3 * (k + 1); omega) (by show 22957 + 44 * k + 44 + 0 ≤ 22957 + 44 * (k + 1); omega) ?_
  exact next _ _ _ (gd_make hW hb9 (xs (i + 1)) (xs (i + 2)) (xs (i + 3))) hI hS

set_option maxHeartbeats 4000000 in
set_option maxRecDepth 100000 in
theorem lwc_2 {p : Program} {l : Launch} {e : Env} {s : State} {m : MethodId} {below : List Frame} {meth : Method} {c : Code} {b L : Nat} {xs : Nat → Int32} {E : En} {i k x z : Nat} {S : Sx} {H : Heap} {locs : List Loc} {ls : Array Slot} {Q : State → Prop} (hL : L ≤ 3072) (C0 : lw_At p s m meth c b L xs) (hT : Tf E s) (hW : Wf S) (hb9 : sNr S < 512 ∧ sNt S < 512 ∧ sNl S < 512) (hk : k < 512) (hi : i + 5 < L) (hI : LI E s.heap.size S S x z H) (hS : va_S (fun q : Nat => s.heap.size ≤ q) s.heap H locs) (hl : lv_has ls 4 [(0, .ref b), (1, .ref x), (2, .ref z), (3, .int (nI i))])
    (next : ∀ (S' : Sx) (H1 : Heap) (locs1 : List Loc), Gd S S' → LI E s.heap.size S' S' x z H1 → va_S (fun q : Nat => s.heap.size ≤ q) s.heap H1 locs1 → W p l e room_1 s m #[Value.ref b] below meth c H1 locs1 (10 + 3 * (k + 1)) (22957 + 44 * (k + 1)) Q (F0 m 1033 ls [])) : W p l e room_1 s m #[Value.ref b] below meth c H locs (10 + 3 * k) (22957 + 44 * k) Q (F0 m 204 ls []) := by
  obtain ⟨hx, hb, hr, hml, hown, hts0, hX, hbl, hlocks, hgv⟩ := C0
  have hts : ∀ w ∈ wsL_law, w.before #[Value.ref b] s = true := fun w h => hts0 w (wsL_law_in w h)
  have hown : s.vm.findClass RL = some m.cls := hown
  have hb : c.code = cL_law := hb
  have hbA : ¬ (fun q : Nat => s.heap.size ≤ q) b := Nat.not_le.mpr hbl
  refine lv_aload_n hx hb dL_law_204 rfl (lv_at hl 1 rfl) ?_
  refine sc_rd (j := 1) hx hb hX hbl hbA hS hl rfl rfl (by omega) hL (v := 1) (by decide) dL_law_205 dL_law_206 dL_law_207 dL_law_208 dL_law_209 ?_
  refine sc_rd (j := 2) hx hb hX hbl hbA hS hl rfl rfl (by omega) hL (v := 2) (by decide) dL_law_210 dL_law_211 dL_law_212 dL_law_213 dL_law_214 ?_
  refine lc_C (As := [.int (xs (i + 1)), .int (xs (i + 2))]) (rest := []) (o := sp_share S (xs (i + 1)) (xs (i + 2))) ⟨hx, hb, hml, hown, hts⟩ (fun A w D hR => cc_X3_share l E A w (xs (i + 1)) (xs (i + 2)) hW hR hb9) (cwV 2 hts gL_law_X3_share rfl rfl rfl (by decide +kernel) ⟨(Nat.le_of_ble_eq_true rfl), (Nat.le_of_ble_eq_true rfl)⟩) hT hI hS rfl rfl hl.1 (Nat.le_of_ble_eq_true rfl) dL_law_215 ⟨by show 10 + 3 * k + 0 ≤ 600000; omega, by show 22957 + 44 * k + 0 ≤ 7302250; omega⟩ (fun H locs hI hS => ?_)
  refine W.eq (g2 := F0 m 218 ls [.int (sp_share S (xs (i + 1)) (xs (i + 2))).1]) rfl ?_
  refine lv_aload_n hx hb dL_law_218 rfl (lv_at hl 2 rfl) ?_
  refine sc_rd (j := 1) hx hb hX hbl hbA hS hl rfl rfl (by omega) hL (v := 1) (by decide) dL_law_219 dL_law_220 dL_law_221 dL_law_222 dL_law_223 ?_
  refine sc_rd (j := 2) hx hb hX hbl hbA hS hl rfl rfl (by omega) hL (v := 2) (by decide) dL_law_224 dL_law_225 dL_law_226 dL_law_227 dL_law_228 ?_
  refine lc_M (As := [.int (xs (i + 1)), .int (xs (i + 2))]) (rest := [.int (sp_share S (xs (i + 1)) (xs (i + 2))).1]) (o := sp_share S (xs (i + 1)) (xs (i + 2))) ⟨hx, hb, hml, hown, hts⟩ (fun A w M tt hR => cc_X4_share l E A w (xs (i + 1)) (xs (i + 2)) hW hR hb9) (cwV 2 hts gL_law_X4_share rfl rfl rfl (by decide +kernel) ⟨(Nat.le_of_ble_eq_true rfl), (Nat.le_of_ble_eq_true rfl)⟩) hT hI hS rfl rfl hl.1 (Nat.le_of_ble_eq_true rfl) dL_law_229 ⟨by show 10 + 3 * k + 0 + 0 ≤ 600000; omega, by show 22957 + 44 * k + 0 + 0 ≤ 7302250; omega⟩ (fun H locs hI hS => ?_)
  refine W.eq (g2 := F0 m 232 ls [.int (sp_share S (xs (i + 1)) (xs (i + 2))).1, .int (sp_share S (xs (i + 1)) (xs (i + 2))).1]) rfl ?_
  refine lv_icmp_eq (tgt := 1033) hx hb dL_law_232 (by decide) (fun _ => ?_) (fun c9 => absurd rfl c9)
  refine W.widen (k := 10 + 3 * (k + 1)) (n := 22957 + 44 * (k + 1)) (by show 10 + 3 * k + 0 + 0 ≤ 10 + 3 * (k + 1); omega) (by show 22957 + 44 * k + 0 + 0 ≤ 22957 + 44 * (k + 1); omega) ?_
  exact next _ _ _ (gd_share hW hb9 (xs (i + 1)) (xs (i + 2))) hI hS

set_option maxHeartbeats 4000000 in
set_option maxRecDepth 100000 in
theorem lwc_3 {p : Program} {l : Launch} {e : Env} {s : State} {m : MethodId} {below : List Frame} {meth : Method} {c : Code} {b L : Nat} {xs : Nat → Int32} {E : En} {i k x z : Nat} {S : Sx} {H : Heap} {locs : List Loc} {ls : Array Slot} {Q : State → Prop} (hL : L ≤ 3072) (C0 : lw_At p s m meth c b L xs) (hT : Tf E s) (hW : Wf S) (hb9 : sNr S < 512 ∧ sNt S < 512 ∧ sNl S < 512) (hk : k < 512) (hi : i + 5 < L) (hI : LI E s.heap.size S S x z H) (hS : va_S (fun q : Nat => s.heap.size ≤ q) s.heap H locs) (hl : lv_has ls 4 [(0, .ref b), (1, .ref x), (2, .ref z), (3, .int (nI i))])
    (next : ∀ (S' : Sx) (H1 : Heap) (locs1 : List Loc), Gd S S' → LI E s.heap.size S' S' x z H1 → va_S (fun q : Nat => s.heap.size ≤ q) s.heap H1 locs1 → W p l e room_1 s m #[Value.ref b] below meth c H1 locs1 (10 + 3 * (k + 1)) (22957 + 44 * (k + 1)) Q (F0 m 1033 ls [])) : W p l e room_1 s m #[Value.ref b] below meth c H locs (10 + 3 * k) (22957 + 44 * k) Q (F0 m 237 ls []) := by
  obtain ⟨hx, hb, hr, hml, hown, hts0, hX, hbl, hlocks, hgv⟩ := C0
  have hts : ∀ w ∈ wsL_law, w.before #[Value.ref b] s = true := fun w h => hts0 w (wsL_law_in w h)
  have hown : s.vm.findClass RL = some m.cls := hown
  have hb : c.code = cL_law := hb
  have hbA : ¬ (fun q : Nat => s.heap.size ≤ q) b := Nat.not_le.mpr hbl
  refine lv_aload_n hx hb dL_law_237 rfl (lv_at hl 1 rfl) ?_
  refine sc_rd (j := 1) hx hb hX hbl hbA hS hl rfl rfl (by omega) hL (v := 1) (by decide) dL_law_238 dL_law_239 dL_law_240 dL_law_241 dL_law_242 ?_
  refine lc_C (As := [.int (xs (i + 1))]) (rest := []) (o := sp_nothing S (xs (i + 1))) ⟨hx, hb, hml, hown, hts⟩ (fun A w D hR => cc_X3_nothing l E A w (xs (i + 1)) hW hR hb9) (cwV 1 hts gL_law_X3_nothing rfl rfl rfl (by decide +kernel) ⟨(Nat.le_of_ble_eq_true rfl), (Nat.le_of_ble_eq_true rfl)⟩) hT hI hS rfl rfl hl.1 (Nat.le_of_ble_eq_true rfl) dL_law_243 ⟨by show 10 + 3 * k + 0 ≤ 600000; omega, by show 22957 + 44 * k + 0 ≤ 7302250; omega⟩ (fun H locs hI hS => ?_)
  refine W.eq (g2 := F0 m 246 ls [.int (sp_nothing S (xs (i + 1))).1]) rfl ?_
  refine lv_aload_n hx hb dL_law_246 rfl (lv_at hl 2 rfl) ?_
  refine sc_rd (j := 1) hx hb hX hbl hbA hS hl rfl rfl (by omega) hL (v := 1) (by decide) dL_law_247 dL_law_248 dL_law_249 dL_law_250 dL_law_251 ?_
  refine lc_M (As := [.int (xs (i + 1))]) (rest := [.int (sp_nothing S (xs (i + 1))).1]) (o := sp_nothing S (xs (i + 1))) ⟨hx, hb, hml, hown, hts⟩ (fun A w M tt hR => cc_X4_nothing l E A w (xs (i + 1)) hW hR hb9) (cwV 1 hts gL_law_X4_nothing rfl rfl rfl (by decide +kernel) ⟨(Nat.le_of_ble_eq_true rfl), (Nat.le_of_ble_eq_true rfl)⟩) hT hI hS rfl rfl hl.1 (Nat.le_of_ble_eq_true rfl) dL_law_252 ⟨by show 10 + 3 * k + 0 + 0 ≤ 600000; omega, by show 22957 + 44 * k + 0 + 0 ≤ 7302250; omega⟩ (fun H locs hI hS => ?_)
  refine W.eq (g2 := F0 m 255 ls [.int (sp_nothing S (xs (i + 1))).1, .int (sp_nothing S (xs (i + 1))).1]) rfl ?_
  refine lv_icmp_eq (tgt := 1033) hx hb dL_law_255 (by decide) (fun _ => ?_) (fun c9 => absurd rfl c9)
  refine W.widen (k := 10 + 3 * (k + 1)) (n := 22957 + 44 * (k + 1)) (by show 10 + 3 * k + 0 + 0 ≤ 10 + 3 * (k + 1); omega) (by show 22957 + 44 * k + 0 + 0 ≤ 22957 + 44 * (k + 1); omega) ?_
  exact next _ _ _ (gd_nothing hW hb9 (xs (i + 1))) hI hS

set_option maxHeartbeats 4000000 in
set_option maxRecDepth 100000 in
theorem lwc_4 {p : Program} {l : Launch} {e : Env} {s : State} {m : MethodId} {below : List Frame} {meth : Method} {c : Code} {b L : Nat} {xs : Nat → Int32} {E : En} {i k x z : Nat} {S : Sx} {H : Heap} {locs : List Loc} {ls : Array Slot} {Q : State → Prop} (hL : L ≤ 3072) (C0 : lw_At p s m meth c b L xs) (hT : Tf E s) (hW : Wf S) (hb9 : sNr S < 512 ∧ sNt S < 512 ∧ sNl S < 512) (hk : k < 512) (hi : i + 5 < L) (hI : LI E s.heap.size S S x z H) (hS : va_S (fun q : Nat => s.heap.size ≤ q) s.heap H locs) (hl : lv_has ls 4 [(0, .ref b), (1, .ref x), (2, .ref z), (3, .int (nI i))])
    (next : ∀ (S' : Sx) (H1 : Heap) (locs1 : List Loc), Gd S S' → LI E s.heap.size S' S' x z H1 → va_S (fun q : Nat => s.heap.size ≤ q) s.heap H1 locs1 → W p l e room_1 s m #[Value.ref b] below meth c H1 locs1 (10 + 3 * (k + 1)) (22957 + 44 * (k + 1)) Q (F0 m 1033 ls [])) : W p l e room_1 s m #[Value.ref b] below meth c H locs (10 + 3 * k) (22957 + 44 * k) Q (F0 m 260 ls []) := by
  obtain ⟨hx, hb, hr, hml, hown, hts0, hX, hbl, hlocks, hgv⟩ := C0
  have hts : ∀ w ∈ wsL_law, w.before #[Value.ref b] s = true := fun w h => hts0 w (wsL_law_in w h)
  have hown : s.vm.findClass RL = some m.cls := hown
  have hb : c.code = cL_law := hb
  have hbA : ¬ (fun q : Nat => s.heap.size ≤ q) b := Nat.not_le.mpr hbl
  refine lv_aload_n hx hb dL_law_260 rfl (lv_at hl 1 rfl) ?_
  refine sc_rd (j := 1) hx hb hX hbl hbA hS hl rfl rfl (by omega) hL (v := 1) (by decide) dL_law_261 dL_law_262 dL_law_263 dL_law_264 dL_law_265 ?_
  refine lc_C (As := [.int (xs (i + 1))]) (rest := []) (o := sp_lump S (xs (i + 1))) ⟨hx, hb, hml, hown, hts⟩ (fun A w D hR => cc_X3_lump l E A w (xs (i + 1)) hW hR hb9) (cwV 1 hts gL_law_X3_lump rfl rfl rfl (by decide +kernel) ⟨(Nat.le_of_ble_eq_true rfl), (Nat.le_of_ble_eq_true rfl)⟩) hT hI hS rfl rfl hl.1 (Nat.le_of_ble_eq_true rfl) dL_law_266 ⟨by show 10 + 3 * k + 3 ≤ 600000; omega, by show 22957 + 44 * k + 44 ≤ 7302250; omega⟩ (fun H locs hI hS => ?_)
  refine W.eq (g2 := F0 m 269 ls [.int (sp_lump S (xs (i + 1))).1]) rfl ?_
  refine lv_aload_n hx hb dL_law_269 rfl (lv_at hl 2 rfl) ?_
  refine sc_rd (j := 1) hx hb hX hbl hbA hS hl rfl rfl (by omega) hL (v := 1) (by decide) dL_law_270 dL_law_271 dL_law_272 dL_law_273 dL_law_274 ?_
  refine lc_M (As := [.int (xs (i + 1))]) (rest := [.int (sp_lump S (xs (i + 1))).1]) (o := sp_lump S (xs (i + 1))) ⟨hx, hb, hml, hown, hts⟩ (fun A w M tt hR => cc_X4_lump l E A w (xs (i + 1)) hW hR hb9) (cwV 1 hts gL_law_X4_lump rfl rfl rfl (by decide +kernel) ⟨(Nat.le_of_ble_eq_true rfl), (Nat.le_of_ble_eq_true rfl)⟩) hT hI hS rfl rfl hl.1 (Nat.le_of_ble_eq_true rfl) dL_law_275 ⟨by show 10 + 3 * k + 3 + 0 ≤ 600000; omega, by show 22957 + 44 * k + 44 + 0 ≤ 7302250; omega⟩ (fun H locs hI hS => ?_)
  refine W.eq (g2 := F0 m 278 ls [.int (sp_lump S (xs (i + 1))).1, .int (sp_lump S (xs (i + 1))).1]) rfl ?_
  refine lv_icmp_eq (tgt := 1033) hx hb dL_law_278 (by decide) (fun _ => ?_) (fun c9 => absurd rfl c9)
  refine W.widen (k := 10 + 3 * (k + 1)) (n := 22957 + 44 * (k + 1)) (by show 10 + 3 * k + 3 + 0 ≤ 10 + 3 * (k + 1); omega) (by show 22957 + 44 * k + 44 + 0 ≤ 22957 + 44 * (k + 1); omega) ?_
  exact next _ _ _ (gd_lump hW hb9 (xs (i + 1))) hI hS
