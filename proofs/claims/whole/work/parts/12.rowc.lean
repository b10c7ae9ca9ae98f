/-- a row that was made: its three cells are new, nothing else has changed -/
def NewRow (E : En) (w w' : Wd) (q na qa : Nat) (kd : Int32) (n zn : Nat) (f : Nat → Int32) (zp : Nat) (g : Nat → Option Nat) : Prop :=
  w q = none ∧ w na = none ∧ w qa = none ∧ q ≠ na ∧ q ≠ qa ∧ na ≠ qa ∧ w' q = some (eRow kd (nI n) na qa) ∧ w' na = some (eI E zn f) ∧ w' qa = some (eP E zp g) ∧ ∀ a, a ≠ q → a ≠ na → a ≠ qa → w' a = w a
theorem NewRow.keeps {E : En} {w w' : Wd} {q na qa : Nat} {kd : Int32} {n zn zp : Nat} {f : Nat → Int32} {g : Nat → Option Nat} (h : NewRow E w w' q na qa kd n zn f zp g) {a : Nat} {x : va_E} (ha : w a = some x) : w' a = some x := by
  obtain ⟨h1, h2, h3, -, -, -, -, -, -, h9⟩ := h
  rw [h9 a (nw_ne ha h1) (nw_ne ha h2) (nw_ne ha h3)]
  exact ha
theorem okW.mono {w w' : Wd} {o : Option Nat} (h : okW w o) (hw : ∀ a x, w a = some x → w' a = some x) : okW w' o := by
  intro b e
  rcases h b e with ⟨c, n, h⟩ | ⟨k, l, x, y, h⟩
  · exact Or.inl ⟨c, n, hw _ _ h⟩
  · exact Or.inr ⟨k, l, x, y, hw _ _ h⟩
/-- behind 'new' and the constructor -/
theorem NewRow.of {E : En} {w w' : Wd} {q : Nat} {fs : va_E} {kd : Int32} {n zn zp : Nat} {f : Nat → Int32} {g : Nat → Option Nat} (hq : w q = none)
    (h : ∃ na qa, va_up w q (some fs) na = none ∧ va_up w q (some fs) qa = none ∧ na ≠ qa ∧ na ≠ q ∧ qa ≠ q ∧ w' q = some (eRow kd (nI n) na qa) ∧ w' na = some (eI E zn f) ∧ w' qa = some (eP E zp g) ∧ ∀ a, a ≠ q → a ≠ na → a ≠ qa → w' a = va_up w q (some fs) a) : ∃ na qa, NewRow E w w' q na qa kd n zn f zp g := by
  obtain ⟨na, qa, h1, h2, h3, h4, h5, h6, h7, h8, h9⟩ := h
  refine ⟨na, qa, hq, ?_, ?_, h4.symm, h5.symm, h3, h6, h7, h8, fun a e1 e2 e3 => ?_⟩
  · rwa [va_up_ne _ _ h4] at h1
  · rwa [va_up_ne _ _ h5] at h2
  · rw [h9 a e1 e2 e3, va_up_ne _ _ e1]
theorem NewRow.fillN {E : En} {w w' : Wd} {q na qa : Nat} {kd : Int32} {n zn zp : Nat} {f f2 : Nat → Int32} {g : Nat → Option Nat} (h : NewRow E w w' q na qa kd n zn f zp g) : NewRow E w (va_up w' na (some (eI E zn f2))) q na qa kd n zn f2 zp g := by
  obtain ⟨h1, h2, h3, h4, h5, h6, h7, h8, h9, h10⟩ := h
  refine ⟨h1, h2, h3, h4, h5, h6, ?_, va_up_self _ _ _, ?_, fun a e1 e2 e3 => ?_⟩
  · rw [va_up_ne _ _ h4]; exact h7
  · rw [va_up_ne _ _ h6.symm]; exact h9
  · rw [va_up_ne _ _ e2]; exact h10 a e1 e2 e3
theorem NewRow.fillP {E : En} {w w' : Wd} {q na qa : Nat} {kd : Int32} {n zn zp : Nat} {f : Nat → Int32} {g g2 : Nat → Option Nat} (h : NewRow E w w' q na qa kd n zn f zp g) : NewRow E w (va_up w' qa (some (eP E zp g2))) q na qa kd n zn f zp g2 := by
  obtain ⟨h1, h2, h3, h4, h5, h6, h7, h8, h9, h10⟩ := h
  refine ⟨h1, h2, h3, h4, h5, h6, ?_, ?_, va_up_self _ _ _, fun a e1 e2 e3 => ?_⟩
  · rw [va_up_ne _ _ h5]; exact h7
  · rw [va_up_ne _ _ h6]; exact h8
  · rw [va_up_ne _ _ e3]; exact h10 a e1 e2 e3
set_option maxHeartbeats 4000000 in
set_option maxRecDepth 100000 in
theorem cc_X1_cut_n (l : Launch) (E : En) (A : Nat → Prop) (w : Wd) {h0 na qa : Nat} {kd ln : Int32} {z : Nat} {f : Nat → Int32} (i n : Nat) (hz : z < 2 ^ 30) (hn : n ≤ 40) (hin9 : i + n ≤ z) (hk : isN kd) (hc : w h0 = some (eRow kd ln na qa)) (hn1 : w na = some (eI E z f)) : Ct l yX1_cut wsX1_cut ({ frames := 3, cells := 3, slots := 44, locals := 63 } : Room) E A w [.ref h0, .int (nI i), .int (nI n)] (fun r w' => ∃ q na2 qa2, r = some (.ref q) ∧ NewRow E w w' q na2 qa2 kd n n (va_cpy f (fun _ => 0) i 0 n) 0 (fun _ => none)) 3 44 := by
  refine Met.ofW (cc := cX1_cut) (maxL := 4) (ret := (some (.object "CopyRows$Row"))) (by decide) rfl ?_
  intro pp0 ee0 s m args below meth cc0 s₁ B hml hv
  obtain ⟨rfl, hT, hI, hA⟩ := hv
  have hx := B.exec
  have hb := B.bytes
  have hr := B.returns
  have hts := atoms_spec (ws := wsX1_cut) B.pre
  have hown : s.vm.findClass RX1 = some m.cls := findClass_of_methodNamed B.named
  have hlocks := B.notSynchronized
  have in_X1 : ∀ w ∈ wsX10, w ∈ wsX1_cut := by decide +kernel
  have hS : va_S A s.heap s.heap [] := va_S.rf
  have hl := lv_entry ([.ref h0, .int (nI i), .int (nI n)]) (n := 4) (Nat.le_of_ble_eq_true rfl)
  rw [lg_entry_eq]
  generalize (lg_sl ([.ref h0, .int (nI i), .int (nI n)]) ++ List.replicate (4 - (lg_sl ([.ref h0, .int (nI i), .int (nI n)])).length) Slot.unset).toArray = ls at hl ⊢
  have hl : lv_has ls 4 [(0, .ref h0), (1, .int (nI i)), (2, .int (nI n))] := hl
  refine wr_new (ci := 0) (fs := [.int 0, .int 0, .null, .null]) (C := RX1) (T := TX1) (N := 4) hx hb hts in_X1 tyX1 tyX1_ok hown (hts (.classLink RX1 10 RX1) (by decide +kernel)) (hts (.instantiable RX1 4) (by decide +kernel)) (hts (.initialized RX1) (by decide +kernel)) hT hI hS hA rfl (fun j hj => by rcases (show j = 0 ∨ j = 1 ∨ j = 2 ∨ j = 3 by omega) with rfl | rfl | rfl | rfl <;> rfl) (Nat.le_of_ble_eq_true rfl) (Nat.le_of_ble_eq_true rfl) dX1_cut_0 (fun q0 H hq0 hI hS => ?_)
  refine W.widen (k := 1) (n := 4) (Nat.le_of_ble_eq_true rfl) (Nat.le_of_ble_eq_true rfl) ?_
  refine lv_dup hx hb dX1_cut_3 rfl ?_
  refine lv_aload_n hx hb dX1_cut_4 rfl (lv_at hl 0 rfl) ?_
  refine wr_get (ci := 0) (C := RX1) (T := TX1) (N := 4) (v := .int kd) hx hb hts in_X1 hown hT hI (nw_in hc hq0) rfl 0 (by decide) (hts (.fieldLink RX1 9 "CopyRows$Row" "kind" "I") (by decide +kernel)) rfl dX1_cut_5 ?_
  refine lv_iload_n hx hb dX1_cut_8 rfl (lv_at hl 2 rfl) ?_
  refine ca_I (As := [.int kd, .int (nI n)]) (rest := [.ref q0]) ⟨hx, hb, hml, hown, hts⟩ (cc_X1_init_n l E A _ kd n hn hk (va_up_self _ _ _)) (cwI 2 hts gX1_cut_X1_init rfl rfl rfl (hts (.initialized RX1) (by decide +kernel)) (hts (.methodLink RX1 44 yX1_init) (by decide +kernel)) (hts (.instanceMethod yX1_init) (by decide +kernel)) rfl (by decide +kernel) ⟨(Nat.le_of_ble_eq_true rfl), (Nat.le_of_ble_eq_true rfl)⟩) hT hI hA hS rfl rfl hl.1 (Nat.le_of_ble_eq_true rfl) dX1_cut_9 ⟨(Nat.le_of_ble_eq_true rfl), (Nat.le_of_ble_eq_true rfl)⟩ (fun r w_2 H locs hp_1 hI hS => ?_)
  obtain ⟨rfl, hp_1⟩ := hp_1
  obtain ⟨q0n, q0p, hNq0⟩ := NewRow.of hq0 hp_1
  refine W.eq (g2 := F0 m 12 ls [.ref q0]) rfl ?_
  refine lv_astore_n (lv' := [(3, .ref q0), (0, .ref h0), (1, .int (nI i)), (2, .int (nI n))]) hx hb dX1_cut_12 rfl hl (by decide) rfl (fun ls hl => ?_)
  refine lv_aload_n hx hb dX1_cut_13 rfl (lv_at hl 0 rfl) ?_
  refine lv_aload_n hx hb dX1_cut_14 rfl (lv_at hl 1 rfl) ?_
  refine lv_iload_n hx hb dX1_cut_15 rfl (lv_at hl 2 rfl) ?_
  refine lv_iconst (v := 0) hx hb dX1_cut_16 (by decide) ?_
  refine lv_iload_n hx hb dX1_cut_17 rfl (lv_at hl 3 rfl) ?_
  refine ca_V (As := [.ref h0, .int (nI i), .int 0, .int (nI n)]) (rest := []) (r0 := (RX1, TX1, 4)) (ci := 0) ⟨hx, hb, hml, hown, hts⟩ (cc_X1_take_n l E A _ i 0 n (by omega) (by omega) hin9 (by omega) hk hNq0.2.2.2.2.2.2.1 (hNq0.keeps hc) hNq0.2.2.2.2.2.2.2.1 (hNq0.keeps hn1)) (cwV 4 hts gX1_cut_X1_take rfl rfl rfl (by decide +kernel) ⟨(Nat.le_of_ble_eq_true rfl), (Nat.le_of_ble_eq_true rfl)⟩) hT hI hA hS rfl hNq0.2.2.2.2.2.2.1 rfl rfl hl.1 (Nat.le_of_ble_eq_true rfl) dX1_cut_18 ⟨(Nat.le_of_ble_eq_true rfl), (Nat.le_of_ble_eq_true rfl)⟩ (fun r w_4 H locs hp_3 hI hS => ?_)
  obtain ⟨rfl, rfl⟩ := hp_3
  refine W.eq (g2 := F0 m 21 ls []) rfl ?_
  refine lv_aload_n hx hb dX1_cut_21 rfl (lv_at hl 0 rfl) ?_
  exact re_a hx hb hr hlocks hT hA hS hI (Or.inr ⟨_, rfl⟩) (⟨q0, q0n, q0p, rfl, hNq0.fillN⟩) (Nat.le_of_ble_eq_true rfl) (Nat.le_of_ble_eq_true rfl) dX1_cut_22

set_option maxHeartbeats 4000000 in
set_option maxRecDepth 100000 in
theorem cc_X1_cut_p (l : Launch) (E : En) (A : Nat → Prop) (w : Wd) {h0 na qa : Nat} {kd ln : Int32} {z : Nat} {f : Nat → Option Nat} (i n : Nat) (hz : z < 2 ^ 30) (hn : n ≤ 40) (hin9 : i + n ≤ z) (hk : ¬ isN kd) (hc : w h0 = some (eRow kd ln na qa)) (hn1 : w qa = some (eP E z f)) (hok : ∀ k, k < n → okW w (f (i + k))) : Ct l yX1_cut wsX1_cut ({ frames := 3, cells := 3, slots := 44, locals := 63 } : Room) E A w [.ref h0, .int (nI i), .int (nI n)] (fun r w' => ∃ q na2 qa2, r = some (.ref q) ∧ NewRow E w w' q na2 qa2 kd n 0 (fun _ => 0) n (va_cpy f (fun _ => none) i 0 n)) 3 44 := by
  refine Met.ofW (cc := cX1_cut) (maxL := 4) (ret := (some (.object "CopyRows$Row"))) (by decide) rfl ?_
  intro pp0 ee0 s m args below meth cc0 s₁ B hml hv
  obtain ⟨rfl, hT, hI, hA⟩ := hv
  have hx := B.exec
  have hb := B.bytes
  have hr := B.returns
  have hts := atoms_spec (ws := wsX1_cut) B.pre
  have hown : s.vm.findClass RX1 = some m.cls := findClass_of_methodNamed B.named
  have hlocks := B.notSynchronized
  have in_X1 : ∀ w ∈ wsX10, w ∈ wsX1_cut := by decide +kernel
  have hS : va_S A s.heap s.heap [] := va_S.rf
  have hl := lv_entry ([.ref h0, .int (nI i), .int (nI n)]) (n := 4) (Nat.le_of_ble_eq_true rfl)
  rw [lg_entry_eq]
  generalize (lg_sl ([.ref h0, .int (nI i), .int (nI n)]) ++ List.replicate (4 - (lg_sl ([.ref h0, .int (nI i), .int (nI n)])).length) Slot.unset).toArray = ls at hl ⊢
  have hl : lv_has ls 4 [(0, .ref h0), (1, .int (nI i)), (2, .int (nI n))] := hl
  refine wr_new (ci := 0) (fs := [.int 0, .int 0, .null, .null]) (C := RX1) (T := TX1) (N := 4) hx hb hts in_X1 tyX1 tyX1_ok hown (hts (.classLink RX1 10 RX1) (by decide +kernel)) (hts (.instantiable RX1 4) (by decide +kernel)) (hts (.initialized RX1) (by decide +kernel)) hT hI hS hA rfl (fun j hj => by rcases (show j = 0 ∨ j = 1 ∨ j = 2 ∨ j = 3 by omega) with rfl | rfl | rfl | rfl <;> rfl) (Nat.le_of_ble_eq_true rfl) (Nat.le_of_ble_eq_true rfl) dX1_cut_0 (fun q0 H hq0 hI hS => ?_)
  refine W.widen (k := 1) (n := 4) (Nat.le_of_ble_eq_true rfl) (Nat.le_of_ble_eq_true rfl) ?_
  refine lv_dup hx hb dX1_cut_3 rfl ?_
  refine lv_aload_n hx hb dX1_cut_4 rfl (lv_at hl 0 rfl) ?_
  refine wr_get (ci := 0) (C := RX1) (T := TX1) (N := 4) (v := .int kd) hx hb hts in_X1 hown hT hI (nw_in hc hq0) rfl 0 (by decide) (hts (.fieldLink RX1 9 "CopyRows$Row" "kind" "I") (by decide +kernel)) rfl dX1_cut_5 ?_
  refine lv_iload_n hx hb dX1_cut_8 rfl (lv_at hl 2 rfl) ?_
  refine ca_I (As := [.int kd, .int (nI n)]) (rest := [.ref q0]) ⟨hx, hb, hml, hown, hts⟩ (cc_X1_init_p l E A _ kd n hn hk (va_up_self _ _ _)) (cwI 2 hts gX1_cut_X1_init rfl rfl rfl (hts (.initialized RX1) (by decide +kernel)) (hts (.methodLink RX1 44 yX1_init) (by decide +kernel)) (hts (.instanceMethod yX1_init) (by decide +kernel)) rfl (by decide +kernel) ⟨(Nat.le_of_ble_eq_true rfl), (Nat.le_of_ble_eq_true rfl)⟩) hT hI hA hS rfl rfl hl.1 (Nat.le_of_ble_eq_true rfl) dX1_cut_9 ⟨(Nat.le_of_ble_eq_true rfl), (Nat.le_of_ble_eq_true rfl)⟩ (fun r w_2 H locs hp_1 hI hS => ?_)
  obtain ⟨rfl, hp_1⟩ := hp_1
  obtain ⟨q0n, q0p, hNq0⟩ := NewRow.of hq0 hp_1
  refine W.eq (g2 := F0 m 12 ls [.ref q0]) rfl ?_
  refine lv_astore_n (lv' := [(3, .ref q0), (0, .ref h0), (1, .int (nI i)), (2, .int (nI n))]) hx hb dX1_cut_12 rfl hl (by decide) rfl (fun ls hl => ?_)
  refine lv_aload_n hx hb dX1_cut_13 rfl (lv_at hl 0 rfl) ?_
  refine lv_aload_n hx hb dX1_cut_14 rfl (lv_at hl 1 rfl) ?_
  refine lv_iload_n hx hb dX1_cut_15 rfl (lv_at hl 2 rfl) ?_
  refine lv_iconst (v := 0) hx hb dX1_cut_16 (by decide) ?_
  refine lv_iload_n hx hb dX1_cut_17 rfl (lv_at hl 3 rfl) ?_
  refine ca_V (As := [.ref h0, .int (nI i), .int 0, .int (nI n)]) (rest := []) (r0 := (RX1, TX1, 4)) (ci := 0) ⟨hx, hb, hml, hown, hts⟩ (cc_X1_take_p l E A _ i 0 n (by omega) (by omega) hin9 (by omega) hk hNq0.2.2.2.2.2.2.1 (hNq0.keeps hc) hNq0.2.2.2.2.2.2.2.2.1 (hNq0.keeps hn1) (fun k hk9 => (hok k hk9).mono (fun a x h => hNq0.keeps h))) (cwV 4 hts gX1_cut_X1_take rfl rfl rfl (by decide +kernel) ⟨(Nat.le_of_ble_eq_true rfl), (Nat.le_of_ble_eq_true rfl)⟩) hT hI hA hS rfl hNq0.2.2.2.2.2.2.1 rfl rfl hl.1 (Nat.le_of_ble_eq_true rfl) dX1_cut_18 ⟨(Nat.le_of_ble_eq_true rfl), (Nat.le_of_ble_eq_true rfl)⟩ (fun r w_4 H locs hp_3 hI hS => ?_)
  obtain ⟨rfl, rfl⟩ := hp_3
  refine W.eq (g2 := F0 m 21 ls []) rfl ?_
  refine lv_aload_n hx hb dX1_cut_21 rfl (lv_at hl 0 rfl) ?_
  exact re_a hx hb hr hlocks hT hA hS hI (Or.inr ⟨_, rfl⟩) (⟨q0, q0n, q0p, rfl, hNq0.fillP⟩) (Nat.le_of_ble_eq_true rfl) (Nat.le_of_ble_eq_true rfl) dX1_cut_22

set_option maxHeartbeats 4000000 in
set_option maxRecDepth 100000 in
theorem cc_X1_isLike_n (l : Launch) (E : En) (A : Nat → Prop) (w : Wd) {h0 h1 na qa na1 qa1 n n1 : Nat} {kd kf : Int32} {f f1 : Nat → Int32} (hz : n < 2 ^ 30) (hz1 : n1 < 2 ^ 30) (hk : isN kd) (hc : w h0 = some (eRow kd (nI n) na qa)) (hc1 : w h1 = some (eRow kf (nI n1) na1 qa1)) (hn : w na = some (eI E n f)) (hn1 : kd = kf → w na1 = some (eI E n1 f1)) : Ct l yX1_isLike wsX1_isLike ({ frames := 1, cells := 0, slots := 0, locals := 20 } : Room) E A w [.ref h0, .ref h1] (fun r w' => w = w' ∧ (((kd = kf ∧ n = n1 ∧ ∀ k, k < n → f k = f1 k) ∧ r = some (.int 1)) ∨ (¬ (kd = kf ∧ n = n1 ∧ ∀ k, k < n → f k = f1 k) ∧ r = some (.int 0)))) 0 0 := by
  refine Met.ofW (cc := cX1_isLike) (maxL := 4) (ret := (some .boolean)) (by decide) rfl ?_
  intro pp0 ee0 s m args below meth cc0 s₁ B hml hv
  obtain ⟨rfl, hT, hI, hA⟩ := hv
  have hx := B.exec
  have hb := B.bytes
  have hr := B.returns
  have hts := atoms_spec (ws := wsX1_isLike) B.pre
  have hown : s.vm.findClass RX1 = some m.cls := findClass_of_methodNamed B.named
  have hlocks := B.notSynchronized
  have in_X1 : ∀ w ∈ wsX10, w ∈ wsX1_isLike := by decide +kernel
  have hS : va_S A s.heap s.heap [] := va_S.rf
  have hl := lv_entry ([.ref h0, .ref h1]) (n := 4) (Nat.le_of_ble_eq_true rfl)
  rw [lg_entry_eq]
  generalize (lg_sl ([.ref h0, .ref h1]) ++ List.replicate (4 - (lg_sl ([.ref h0, .ref h1])).length) Slot.unset).toArray = ls at hl ⊢
  have hl : lv_has ls 4 [(0, .ref h0), (1, .ref h1)] := hl
  refine lv_aload_n hx hb dX1_isLike_0 rfl (lv_at hl 0 rfl) ?_
  refine wr_get (ci := 0) (C := RX1) (T := TX1) (N := 4) (v := .int kd) hx hb hts in_X1 hown hT hI hc rfl 0 (by decide) (hts (.fieldLink RX1 9 "CopyRows$Row" "kind" "I") (by decide +kernel)) rfl dX1_isLike_1 ?_
  refine lv_aload_n hx hb dX1_isLike_4 rfl (lv_at hl 1 rfl) ?_
  refine wr_get (ci := 0) (C := RX1) (T := TX1) (N := 4) (v := .int kf) hx hb hts in_X1 hown hT hI hc1 rfl 0 (by decide) (hts (.fieldLink RX1 9 "CopyRows$Row" "kind" "I") (by decide +kernel)) rfl dX1_isLike_5 ?_
  refine lv_icmp_ne (tgt := 22) hx hb dX1_isLike_8 (by decide) (fun c_1 => ?_) (fun c_1 => ?_)
  · refine lv_iconst (v := 0) hx hb dX1_isLike_22 (by decide) ?_
    exact re_z hx hb hr hlocks hT hA hS hI (by decide) (⟨rfl, Or.inr ⟨fun q => c_1 q.1, rfl⟩⟩) (Nat.le_of_ble_eq_true rfl) (Nat.le_of_ble_eq_true rfl) dX1_isLike_23
  · refine lv_aload_n hx hb dX1_isLike_11 rfl (lv_at hl 0 rfl) ?_
    refine wr_get (ci := 0) (C := RX1) (T := TX1) (N := 4) (v := .int (nI n)) hx hb hts in_X1 hown hT hI hc rfl 1 (by decide) (hts (.fieldLink RX1 15 "CopyRows$Row" "length" "I") (by decide +kernel)) rfl dX1_isLike_12 ?_
    refine lv_aload_n hx hb dX1_isLike_15 rfl (lv_at hl 1 rfl) ?_
    refine wr_get (ci := 0) (C := RX1) (T := TX1) (N := 4) (v := .int (nI n1)) hx hb hts in_X1 hown hT hI hc1 rfl 1 (by decide) (hts (.fieldLink RX1 15 "CopyRows$Row" "length" "I") (by decide +kernel)) rfl dX1_isLike_16 ?_
    refine lv_icmp_eq (tgt := 24) hx hb dX1_isLike_19 (by decide) (fun c_2 => ?_) (fun c_2 => ?_)
    · have c_2 : n = n1 := (nI_eq (a := n) (b := n1) (by omega) (by omega)).mp c_2
      have hkf : kd = kf := c_1
      have hnn : n = n1 := c_2
      have hn9 : w na1 = some (eI E n1 f1) := hn1 hkf
      refine lv_iconst (v := 0) hx hb dX1_isLike_24 (by decide) ?_
      refine lv_istore_n (lv' := [(2, .int 0), (0, .ref h0), (1, .ref h1)]) hx hb dX1_isLike_25 rfl hl (by decide) rfl (fun ls hl => ?_)
      refine lp_w (ι := Nat) (fun t => n - t) (fun t H locs ls => (t ≤ n ∧ ∀ k, k < t → f k = f1 k) ∧ Hv E A w H ∧ va_S A s.heap H locs ∧ lv_has ls 4 [(0, .ref h0), (1, .ref h1), (2, .int (nI t))]) ?_ 0 _ _ _ ⟨⟨Nat.zero_le _, fun k hk9 => absurd hk9 (Nat.not_lt_zero _)⟩, hI, hS, lv_sub hl [1, 2, 0] (rfl)⟩
      intro t H locs ls hq ih
      obtain ⟨⟨ht, hall⟩, hI, hS, hl⟩ := hq
      refine lv_iload_n hx hb dX1_isLike_26 rfl (lv_at hl 2 rfl) ?_
      refine lv_aload_n hx hb dX1_isLike_27 rfl (lv_at hl 0 rfl) ?_
      refine wr_get (ci := 0) (C := RX1) (T := TX1) (N := 4) (v := .int (nI n)) hx hb hts in_X1 hown hT hI hc rfl 1 (by decide) (hts (.fieldLink RX1 15 "CopyRows$Row" "length" "I") (by decide +kernel)) rfl dX1_isLike_28 ?_
      refine lv_icmp_ge (tgt := 97) hx hb dX1_isLike_31 (by decide) (fun c_3 => ?_) (fun c_3 => ?_)
      · have c_3 : n ≤ t := (nI_leI (a := n) (b := t) (by omega) (by omega)).mp c_3
        refine lv_iconst (v := 1) hx hb dX1_isLike_97 (by decide) ?_
        exact re_z hx hb hr hlocks hT hA hS hI (by decide) (⟨rfl, Or.inl ⟨⟨hkf, hnn, fun k hk9 => hall k (by omega)⟩, rfl⟩⟩) (Nat.le_of_ble_eq_true rfl) (Nat.le_of_ble_eq_true rfl) dX1_isLike_98
      · have c_3 : ¬ n ≤ t := fun q => c_3 ((nI_leI (a := n) (b := t) (by omega) (by omega)).mpr q)
        refine lv_aload_n hx hb dX1_isLike_34 rfl (lv_at hl 0 rfl) ?_
        refine ca_V (As := []) (rest := []) (r0 := (RX1, TX1, 4)) (ci := 0) ⟨hx, hb, hml, hown, hts⟩ (cc_X1_isOfNumbers_n l E A _ hk hc) (cwV 0 hts gX1_isLike_X1_isOfNumbers rfl rfl rfl (by decide +kernel) ⟨(Nat.le_of_ble_eq_true rfl), (Nat.le_of_ble_eq_true rfl)⟩) hT hI hA hS rfl hc rfl rfl hl.1 (Nat.le_of_ble_eq_true rfl) dX1_isLike_35 ⟨(Nat.le_of_ble_eq_true rfl), (Nat.le_of_ble_eq_true rfl)⟩ (fun r w_5 H locs hp_4 hI hS => ?_)
        obtain ⟨rfl, rfl⟩ := hp_4
        refine W.eq (g2 := F0 m 38 ls [.int 1]) rfl ?_
        refine lv_if_eq (tgt := 64) hx hb dX1_isLike_38 (by decide) (fun c => absurd c (by decide)) (fun _ => ?_)
        refine lv_aload_n hx hb dX1_isLike_41 rfl (lv_at hl 0 rfl) ?_
        refine wr_get (ci := 0) (C := RX1) (T := TX1) (N := 4) (v := .ref na) hx hb hts in_X1 hown hT hI hc rfl 2 (by decide) (hts (.fieldLink RX1 18 "CopyRows$Row" "numbers" "[I") (by decide +kernel)) rfl dX1_isLike_42 ?_
        refine lv_iload_n hx hb dX1_isLike_45 rfl (lv_at hl 2 rfl) ?_
        refine wr_ialdN (t := t) (n := n) (f := f) hx hb hT hI hn (by omega) (by omega) dX1_isLike_46 ?_
        refine lv_aload_n hx hb dX1_isLike_47 rfl (lv_at hl 1 rfl) ?_
        refine wr_get (ci := 0) (C := RX1) (T := TX1) (N := 4) (v := .ref na1) hx hb hts in_X1 hown hT hI hc1 rfl 2 (by decide) (hts (.fieldLink RX1 18 "CopyRows$Row" "numbers" "[I") (by decide +kernel)) rfl dX1_isLike_48 ?_
        refine lv_iload_n hx hb dX1_isLike_51 rfl (lv_at hl 2 rfl) ?_
        refine wr_ialdN (t := t) (n := n1) (f := f1) hx hb hT hI hn9 (by omega) (by omega) dX1_isLike_52 ?_
        refine lv_icmp_eq (tgt := 60) hx hb dX1_isLike_53 (by decide) (fun c_6 => ?_) (fun c_6 => ?_)
        · refine lv_iconst (v := 0) hx hb dX1_isLike_60 (by decide) ?_
          refine lv_goto (tgt := 84) hx hb dX1_isLike_61 (by decide) ?_
          refine lv_istore_n (lv' := [(3, .int 0), (0, .ref h0), (1, .ref h1), (2, .int (nI t))]) hx hb dX1_isLike_84 rfl hl (by decide) rfl (fun ls hl => ?_)
          refine lv_iload_n hx hb dX1_isLike_85 rfl (lv_at hl 0 rfl) ?_
          refine lv_if_eq (tgt := 91) hx hb dX1_isLike_86 (by decide) (fun _ => ?_) (fun c => absurd c (by decide))
          refine lv_iinc (v := nI (t + 1)) (lv' := [(2, .int (nI (t + 1))), (3, .int 0), (0, .ref h0), (1, .ref h1)]) hx hb dX1_isLike_91 hl (k := 3) rfl (nI_1 _) (by decide) rfl (fun ls hl => ?_)
          refine lv_goto (tgt := 26) hx hb dX1_isLike_94 (by decide) ?_
          exact ih (t + 1) _ _ _ ⟨⟨by omega, fun k hk9 => by rcases Nat.lt_or_ge k t with q | q; exact hall k q; rw [show k = t by omega]; exact c_6⟩, hI, hS, lv_sub hl [2, 3, 0] (rfl)⟩ (by omega)
        · refine lv_iconst (v := 1) hx hb dX1_isLike_56 (by decide) ?_
          refine lv_goto (tgt := 84) hx hb dX1_isLike_57 (by decide) ?_
          refine lv_istore_n (lv' := [(3, .int 1), (0, .ref h0), (1, .ref h1), (2, .int (nI t))]) hx hb dX1_isLike_84 rfl hl (by decide) rfl (fun ls hl => ?_)
          refine lv_iload_n hx hb dX1_isLike_85 rfl (lv_at hl 0 rfl) ?_
          refine lv_if_eq (tgt := 91) hx hb dX1_isLike_86 (by decide) (fun c => absurd c (by decide)) (fun _ => ?_)
          refine lv_iconst (v := 0) hx hb dX1_isLike_89 (by decide) ?_
          exact re_z hx hb hr hlocks hT hA hS hI (by decide) (⟨rfl, Or.inr ⟨fun q => c_6 (q.2.2 t (by omega)), rfl⟩⟩) (Nat.le_of_ble_eq_true rfl) (Nat.le_of_ble_eq_true rfl) dX1_isLike_90
    · have c_2 : ¬ n = n1 := fun q => c_2 ((nI_eq (a := n) (b := n1) (by omega) (by omega)).mpr q)
      refine lv_iconst (v := 0) hx hb dX1_isLike_22 (by decide) ?_
      exact re_z hx hb hr hlocks hT hA hS hI (by decide) (⟨rfl, Or.inr ⟨fun q => c_2 q.2.1, rfl⟩⟩) (Nat.le_of_ble_eq_true rfl) (Nat.le_of_ble_eq_true rfl) dX1_isLike_23

set_option maxHeartbeats 4000000 in
set_option maxRecDepth 100000 in
theorem cc_X1_isLike_p (l : Launch) (E : En) (A : Nat → Prop) (w : Wd) {h0 h1 na qa na1 qa1 n n1 : Nat} {kd kf : Int32} {f f1 : Nat → Option Nat} (hz : n < 2 ^ 30) (hz1 : n1 < 2 ^ 30) (hk : ¬ isN kd) (hc : w h0 = some (eRow kd (nI n) na qa)) (hc1 : w h1 = some (eRow kf (nI n1) na1 qa1)) (hn : w qa = some (eP E n f)) (hn1 : kd = kf → w qa1 = some (eP E n1 f1)) : Ct l yX1_isLike wsX1_isLike ({ frames := 1, cells := 0, slots := 0, locals := 20 } : Room) E A w [.ref h0, .ref h1] (fun r w' => w = w' ∧ (((kd = kf ∧ n = n1 ∧ ∀ k, k < n → f k = f1 k) ∧ r = some (.int 1)) ∨ (¬ (kd = kf ∧ n = n1 ∧ ∀ k, k < n → f k = f1 k) ∧ r = some (.int 0)))) 0 0 := by
  refine Met.ofW (cc := cX1_isLike) (maxL := 4) (ret := (some .boolean)) (by decide) rfl ?_
  intro pp0 ee0 s m args below meth cc0 s₁ B hml hv
  obtain ⟨rfl, hT, hI, hA⟩ := hv
  have hx := B.exec
  have hb := B.bytes
  have hr := B.returns
  have hts := atoms_spec (ws := wsX1_isLike) B.pre
  have hown : s.vm.findClass RX1 = some m.cls := findClass_of_methodNamed B.named
  have hlocks := B.notSynchronized
  have in_X1 : ∀ w ∈ wsX10, w ∈ wsX1_isLike := by decide +kernel
  have hS : va_S A s.heap s.heap [] := va_S.rf
  have hl := lv_entry ([.ref h0, .ref h1]) (n := 4) (Nat.le_of_ble_eq_true rfl)
  rw [lg_entry_eq]
  generalize (lg_sl ([.ref h0, .ref h1]) ++ List.replicate (4 - (lg_sl ([.ref h0, .ref h1])).length) Slot.unset).toArray = ls at hl ⊢
  have hl : lv_has ls 4 [(0, .ref h0), (1, .ref h1)] := hl
  refine lv_aload_n hx hb dX1_isLike_0 rfl (lv_at hl 0 rfl) ?_
  refine wr_get (ci := 0) (C := RX1) (T := TX1) (N := 4) (v := .int kd) hx hb hts in_X1 hown hT hI hc rfl 0 (by decide) (hts (.fieldLink RX1 9 "CopyRows$Row" "kind" "I") (by decide +kernel)) rfl dX1_isLike_1 ?_
  refine lv_aload_n hx hb dX1_isLike_4 rfl (lv_at hl 1 rfl) ?_
  refine wr_get (ci := 0) (C := RX1) (T := TX1) (N := 4) (v := .int kf) hx hb hts in_X1 hown hT hI hc1 rfl 0 (by decide) (hts (.fieldLink RX1 9 "CopyRows$Row" "kind" "I") (by decide +kernel)) rfl dX1_isLike_5 ?_
  refine lv_icmp_ne (tgt := 22) hx hb dX1_isLike_8 (by decide) (fun c_1 => ?_) (fun c_1 => ?_)
  · refine lv_iconst (v := 0) hx hb dX1_isLike_22 (by decide) ?_
    exact re_z hx hb hr hlocks hT hA hS hI (by decide) (⟨rfl, Or.inr ⟨fun q => c_1 q.1, rfl⟩⟩) (Nat.le_of_ble_eq_true rfl) (Nat.le_of_ble_eq_true rfl) dX1_isLike_23
  · refine lv_aload_n hx hb dX1_isLike_11 rfl (lv_at hl 0 rfl) ?_
    refine wr_get (ci := 0) (C := RX1) (T := TX1) (N := 4) (v := .int (nI n)) hx hb hts in_X1 hown hT hI hc rfl 1 (by decide) (hts (.fieldLink RX1 15 "CopyRows$Row" "length" "I") (by decide +kernel)) rfl dX1_isLike_12 ?_
    refine lv_aload_n hx hb dX1_isLike_15 rfl (lv_at hl 1 rfl) ?_
    refine wr_get (ci := 0) (C := RX1) (T := TX1) (N := 4) (v := .int (nI n1)) hx hb hts in_X1 hown hT hI hc1 rfl 1 (by decide) (hts (.fieldLink RX1 15 "CopyRows$Row" "length" "I") (by decide +kernel)) rfl dX1_isLike_16 ?_
    refine lv_icmp_eq (tgt := 24) hx hb dX1_isLike_19 (by decide) (fun c_2 => ?_) (fun c_2 => ?_)
    · have c_2 : n = n1 := (nI_eq (a := n) (b := n1) (by omega) (by omega)).mp c_2
      have hkf : kd = kf := c_1
      have hnn : n = n1 := c_2
      have hn9 : w qa1 = some (eP E n1 f1) := hn1 hkf
      refine lv_iconst (v := 0) hx hb dX1_isLike_24 (by decide) ?_
      refine lv_istore_n (lv' := [(2, .int 0), (0, .ref h0), (1, .ref h1)]) hx hb dX1_isLike_25 rfl hl (by decide) rfl (fun ls hl => ?_)
      refine lp_w (ι := Nat) (fun t => n - t) (fun t H locs ls => (t ≤ n ∧ ∀ k, k < t → f k = f1 k) ∧ Hv E A w H ∧ va_S A s.heap H locs ∧ lv_has ls 4 [(0, .ref h0), (1, .ref h1), (2, .int (nI t))]) ?_ 0 _ _ _ ⟨⟨Nat.zero_le _, fun k hk9 => absurd hk9 (Nat.not_lt_zero _)⟩, hI, hS, lv_sub hl [1, 2, 0] (rfl)⟩
      intro t H locs ls hq ih
      obtain ⟨⟨ht, hall⟩, hI, hS, hl⟩ := hq
      refine lv_iload_n hx hb dX1_isLike_26 rfl (lv_at hl 2 rfl) ?_
      refine lv_aload_n hx hb dX1_isLike_27 rfl (lv_at hl 0 rfl) ?_
      refine wr_get (ci := 0) (C := RX1) (T := TX1) (N := 4) (v := .int (nI n)) hx hb hts in_X1 hown hT hI hc rfl 1 (by decide) (hts (.fieldLink RX1 15 "CopyRows$Row" "length" "I") (by decide +kernel)) rfl dX1_isLike_28 ?_
      refine lv_icmp_ge (tgt := 97) hx hb dX1_isLike_31 (by decide) (fun c_3 => ?_) (fun c_3 => ?_)
      · have c_3 : n ≤ t := (nI_leI (a := n) (b := t) (by omega) (by omega)).mp c_3
        refine lv_iconst (v := 1) hx hb dX1_isLike_97 (by decide) ?_
        exact re_z hx hb hr hlocks hT hA hS hI (by decide) (⟨rfl, Or.inl ⟨⟨hkf, hnn, fun k hk9 => hall k (by omega)⟩, rfl⟩⟩) (Nat.le_of_ble_eq_true rfl) (Nat.le_of_ble_eq_true rfl) dX1_isLike_98
      · have c_3 : ¬ n ≤ t := fun q => c_3 ((nI_leI (a := n) (b := t) (by omega) (by omega)).mpr q)
        refine lv_aload_n hx hb dX1_isLike_34 rfl (lv_at hl 0 rfl) ?_
        refine ca_V (As := []) (rest := []) (r0 := (RX1, TX1, 4)) (ci := 0) ⟨hx, hb, hml, hown, hts⟩ (cc_X1_isOfNumbers_p l E A _ hk hc) (cwV 0 hts gX1_isLike_X1_isOfNumbers rfl rfl rfl (by decide +kernel) ⟨(Nat.le_of_ble_eq_true rfl), (Nat.le_of_ble_eq_true rfl)⟩) hT hI hA hS rfl hc rfl rfl hl.1 (Nat.le_of_ble_eq_true rfl) dX1_isLike_35 ⟨(Nat.le_of_ble_eq_true rfl), (Nat.le_of_ble_eq_true rfl)⟩ (fun r w_5 H locs hp_4 hI hS => ?_)
        obtain ⟨rfl, rfl⟩ := hp_4
        refine W.eq (g2 := F0 m 38 ls [.int 0]) rfl ?_
        refine lv_if_eq (tgt := 64) hx hb dX1_isLike_38 (by decide) (fun _ => ?_) (fun c => absurd c (by decide))
        refine lv_aload_n hx hb dX1_isLike_64 rfl (lv_at hl 0 rfl) ?_
        refine wr_get (ci := 0) (C := RX1) (T := TX1) (N := 4) (v := .ref qa) hx hb hts in_X1 hown hT hI hc rfl 3 (by decide) (hts (.fieldLink RX1 22 "CopyRows$Row" "parts" "[LCopyRows$Part;") (by decide +kernel)) rfl dX1_isLike_65 ?_
        refine lv_iload_n hx hb dX1_isLike_68 rfl (lv_at hl 2 rfl) ?_
        refine wr_aaldN (t := t) (n := n) (f := f) hx hb hT hI hn 1 rfl (by omega) (by omega) dX1_isLike_69 ?_
        refine lv_aload_n hx hb dX1_isLike_70 rfl (lv_at hl 1 rfl) ?_
        refine wr_get (ci := 0) (C := RX1) (T := TX1) (N := 4) (v := .ref qa1) hx hb hts in_X1 hown hT hI hc1 rfl 3 (by decide) (hts (.fieldLink RX1 22 "CopyRows$Row" "parts" "[LCopyRows$Part;") (by decide +kernel)) rfl dX1_isLike_71 ?_
        refine lv_iload_n hx hb dX1_isLike_74 rfl (lv_at hl 2 rfl) ?_
        refine wr_aaldN (t := t) (n := n1) (f := f1) hx hb hT hI hn9 1 rfl (by omega) (by omega) dX1_isLike_75 ?_
        refine W.eq (g2 := F0 m 76 ls (va_rf (f1 t) :: va_rf (f t) :: [])) rfl ?_
        refine lv_acmp_eq (tgt := 83) hx hb dX1_isLike_76 (by decide) (fun c_6 => ?_) (fun c_6 => ?_)
        · refine lv_iconst (v := 0) hx hb dX1_isLike_83 (by decide) ?_
          refine lv_istore_n (lv' := [(3, .int 0), (0, .ref h0), (1, .ref h1), (2, .int (nI t))]) hx hb dX1_isLike_84 rfl hl (by decide) rfl (fun ls hl => ?_)
          refine lv_iload_n hx hb dX1_isLike_85 rfl (lv_at hl 0 rfl) ?_
          refine lv_if_eq (tgt := 91) hx hb dX1_isLike_86 (by decide) (fun _ => ?_) (fun c => absurd c (by decide))
          refine lv_iinc (v := nI (t + 1)) (lv' := [(2, .int (nI (t + 1))), (3, .int 0), (0, .ref h0), (1, .ref h1)]) hx hb dX1_isLike_91 hl (k := 3) rfl (nI_1 _) (by decide) rfl (fun ls hl => ?_)
          refine lv_goto (tgt := 26) hx hb dX1_isLike_94 (by decide) ?_
          exact ih (t + 1) _ _ _ ⟨⟨by omega, fun k hk9 => by rcases Nat.lt_or_ge k t with q | q; exact hall k q; rw [show k = t by omega]; exact c_6⟩, hI, hS, lv_sub hl [2, 3, 0] (rfl)⟩ (by omega)
        · refine lv_iconst (v := 1) hx hb dX1_isLike_79 (by decide) ?_
          refine lv_goto (tgt := 84) hx hb dX1_isLike_80 (by decide) ?_
          refine lv_istore_n (lv' := [(3, .int 1), (0, .ref h0), (1, .ref h1), (2, .int (nI t))]) hx hb dX1_isLike_84 rfl hl (by decide) rfl (fun ls hl => ?_)
          refine lv_iload_n hx hb dX1_isLike_85 rfl (lv_at hl 0 rfl) ?_
          refine lv_if_eq (tgt := 91) hx hb dX1_isLike_86 (by decide) (fun c => absurd c (by decide)) (fun _ => ?_)
          refine lv_iconst (v := 0) hx hb dX1_isLike_89 (by decide) ?_
          exact re_z hx hb hr hlocks hT hA hS hI (by decide) (⟨rfl, Or.inr ⟨fun q => c_6 (q.2.2 t (by omega)), rfl⟩⟩) (Nat.le_of_ble_eq_true rfl) (Nat.le_of_ble_eq_true rfl) dX1_isLike_90
    · have c_2 : ¬ n = n1 := fun q => c_2 ((nI_eq (a := n) (b := n1) (by omega) (by omega)).mpr q)
      refine lv_iconst (v := 0) hx hb dX1_isLike_22 (by decide) ?_
      exact re_z hx hb hr hlocks hT hA hS hI (by decide) (⟨rfl, Or.inr ⟨fun q => c_2 q.2.1, rfl⟩⟩) (Nat.le_of_ble_eq_true rfl) (Nat.le_of_ble_eq_true rfl) dX1_isLike_23
