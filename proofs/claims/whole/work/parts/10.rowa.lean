set_option maxHeartbeats 4000000 in
set_option maxRecDepth 100000 in
theorem cc_X0_init (l : Launch) (E : En) (A : Nat → Prop) (w : Wd) (h0 : Nat) : Ct l yX0_init wsX0_init ({ frames := 1, cells := 0, slots := 0, locals := 20 } : Room) E A w [.ref h0] (fun r w' => r = none ∧ w = w') 0 0 := by
  refine Met.ofW (cc := cX0_init) (maxL := 1) (ret := none) (by decide) rfl ?_
  intro pp0 ee0 s m args below meth cc0 s₁ B hml hv
  obtain ⟨rfl, hT, hI, hA⟩ := hv
  have hx := B.exec
  have hb := B.bytes
  have hr := B.returns
  have hts := atoms_spec (ws := wsX0_init) B.pre
  have hown : s.vm.findClass RX0 = some m.cls := findClass_of_methodNamed B.named
  have hlocks := B.notSynchronized
  have hin : meth.name = "<init>" := (name_of_methodNamed B.named B.method).1
  have hS : va_S A s.heap s.heap [] := va_S.rf
  have hl := lv_entry ([.ref h0]) (n := 1) (Nat.le_of_ble_eq_true rfl)
  rw [lg_entry_eq]
  generalize (lg_sl ([.ref h0]) ++ List.replicate (1 - (lg_sl ([.ref h0])).length) Slot.unset).toArray = ls at hl ⊢
  have hl : lv_has ls 1 [(0, .ref h0)] := hl
  refine lv_aload_n hx hb dX0_init_0 rfl (lv_at hl 0 rfl) ?_
  refine W.objInit hx hb hown (hts (.methodLink RX0 1 objectInit) (by decide +kernel)) (hts (.instanceMethod objectInit) (by decide +kernel)) (hts _ (List.mem_of_getElem? (i := 3) rfl)) rfl (by rw [hml]; exact hl.1) rfl dX0_init_1 (Nat.le_of_ble_eq_true rfl) (Nat.le_of_ble_eq_true rfl) ?_
  refine W.eq (g2 := F0 m 4 ls []) rfl ?_
  exact re_v hx hb hr hlocks hT hA hS hI (⟨rfl, rfl⟩) (Nat.le_of_ble_eq_true rfl) (Nat.le_of_ble_eq_true rfl) dX0_init_4

set_option maxHeartbeats 4000000 in
set_option maxRecDepth 100000 in
theorem cc_X2_init (l : Launch) (E : En) (A : Nat → Prop) (w : Wd) {h0 : Nat} {c0 n0 : Int32} (cv nv : Int32) (hc : w h0 = some (eTh c0 n0)) : Ct l yX2_init wsX2_init ({ frames := 2, cells := 0, slots := 0, locals := 40 } : Room) E A w [.ref h0, .int cv, .int nv] (fun r w' => r = none ∧ w' h0 = some (eTh cv nv) ∧ ∀ a, a ≠ h0 → w' a = w a) 0 0 := by
  refine Met.ofW (cc := cX2_init) (maxL := 3) (ret := none) (by decide) rfl ?_
  intro pp0 ee0 s m args below meth cc0 s₁ B hml hv
  obtain ⟨rfl, hT, hI, hA⟩ := hv
  have hx := B.exec
  have hb := B.bytes
  have hr := B.returns
  have hts := atoms_spec (ws := wsX2_init) B.pre
  have hown : s.vm.findClass RX2 = some m.cls := findClass_of_methodNamed B.named
  have hlocks := B.notSynchronized
  have hin : meth.name = "<init>" := (name_of_methodNamed B.named B.method).1
  have in_X2 : ∀ w ∈ wsX20, w ∈ wsX2_init := by decide +kernel
  have hS : va_S A s.heap s.heap [] := va_S.rf
  have hl := lv_entry ([.ref h0, .int cv, .int nv]) (n := 3) (Nat.le_of_ble_eq_true rfl)
  rw [lg_entry_eq]
  generalize (lg_sl ([.ref h0, .int cv, .int nv]) ++ List.replicate (3 - (lg_sl ([.ref h0, .int cv, .int nv])).length) Slot.unset).toArray = ls at hl ⊢
  have hl : lv_has ls 3 [(0, .ref h0), (1, .int cv), (2, .int nv)] := hl
  refine lv_aload_n hx hb dX2_init_0 rfl (lv_at hl 0 rfl) ?_
  refine ca_IN (As := []) (rest := []) ⟨hx, hb, hml, hown, hts⟩ (cc_X0_init l E A w h0) ⟨va_cnB 0 hts gX2_init_X0_init_n3 rfl rfl rfl hT.2.2.2.2.1 (hts (.initialized RX0) (by decide +kernel)) (by decide +kernel) ⟨(Nat.le_of_ble_eq_true rfl), (Nat.le_of_ble_eq_true rfl)⟩, rfl, hts (.instanceMethod yX0_init) (by decide +kernel)⟩ hT hI hA hS rfl rfl hl.1 (Nat.le_of_ble_eq_true rfl) dX2_init_1 ⟨(Nat.le_of_ble_eq_true rfl), (Nat.le_of_ble_eq_true rfl)⟩ (fun r w_2 H locs hp_1 hI hS => ?_)
  obtain ⟨rfl, rfl⟩ := hp_1
  refine W.eq (g2 := F0 m 4 ls []) rfl ?_
  refine lv_aload_n hx hb dX2_init_4 rfl (lv_at hl 0 rfl) ?_
  refine lv_iload_n hx hb dX2_init_5 rfl (lv_at hl 1 rfl) ?_
  refine wr_putF (ci := 1) (C := RX2) (T := TX2) (N := 2) (v := .int cv) (ty := .int) hx hb hts in_X2 tyX2 tyX2_ok nmX2 hown hT hI hS hc rfl 0 (by decide) (hts (.fieldLink RX2 9 "CopyRows$Thing" "cls" "I") (by decide +kernel)) rfl hin rfl (by decide +kernel) rfl rfl (Nat.le_of_ble_eq_true rfl) dX2_init_6 (fun H locs hI hS => ?_)
  refine lv_aload_n hx hb dX2_init_9 rfl (lv_at hl 0 rfl) ?_
  refine lv_iload_n hx hb dX2_init_10 rfl (lv_at hl 2 rfl) ?_
  refine wr_putF (ci := 1) (C := RX2) (T := TX2) (N := 2) (v := .int nv) (ty := .int) hx hb hts in_X2 tyX2 tyX2_ok nmX2 hown hT hI hS (va_up_self _ _ _) rfl 1 (by decide) (hts (.fieldLink RX2 15 "CopyRows$Thing" "number" "I") (by decide +kernel)) rfl hin rfl (by decide +kernel) rfl rfl (Nat.le_of_ble_eq_true rfl) dX2_init_11 (fun H locs hI hS => ?_)
  exact re_v hx hb hr hlocks hT hA hS hI (⟨rfl, va_up_self _ _ _, fun a ha => by simp [va_up, ha]⟩) (Nat.le_of_ble_eq_true rfl) (Nat.le_of_ble_eq_true rfl) dX2_init_14

set_option maxHeartbeats 4000000 in
set_option maxRecDepth 100000 in
theorem cc_X1_init_n (l : Launch) (E : En) (A : Nat → Prop) (w : Wd) {h0 : Nat} {c0 c1 : Int32} {v0 v1 : Value} (kd : Int32) (n : Nat) (hn : n ≤ 40) (hk : isN kd) (hc : w h0 = some (.inr (0, [.int c0, .int c1, v0, v1]))) : Ct l yX1_init wsX1_init ({ frames := 2, cells := 2, slots := 40, locals := 40 } : Room) E A w [.ref h0, .int kd, .int (nI n)] (fun r w' => r = none ∧ ∃ na qa, w na = none ∧ w qa = none ∧ na ≠ qa ∧ na ≠ h0 ∧ qa ≠ h0 ∧ w' h0 = some (eRow kd (nI n) na qa) ∧ w' na = some (eI E n (fun _ => 0)) ∧ w' qa = some (eP E 0 (fun _ => none)) ∧ ∀ a, a ≠ h0 → a ≠ na → a ≠ qa → w' a = w a) 2 40 := by
  refine Met.ofW (cc := cX1_init) (maxL := 4) (ret := none) (by decide) rfl ?_
  intro pp0 ee0 s m args below meth cc0 s₁ B hml hv
  obtain ⟨rfl, hT, hI, hA⟩ := hv
  have hx := B.exec
  have hb := B.bytes
  have hr := B.returns
  have hts := atoms_spec (ws := wsX1_init) B.pre
  have hown : s.vm.findClass RX1 = some m.cls := findClass_of_methodNamed B.named
  have hlocks := B.notSynchronized
  have hin : meth.name = "<init>" := (name_of_methodNamed B.named B.method).1
  have in_X1 : ∀ w ∈ wsX10, w ∈ wsX1_init := by decide +kernel
  have hS : va_S A s.heap s.heap [] := va_S.rf
  have hl := lv_entry ([.ref h0, .int kd, .int (nI n)]) (n := 4) (Nat.le_of_ble_eq_true rfl)
  rw [lg_entry_eq]
  generalize (lg_sl ([.ref h0, .int kd, .int (nI n)]) ++ List.replicate (4 - (lg_sl ([.ref h0, .int kd, .int (nI n)])).length) Slot.unset).toArray = ls at hl ⊢
  have hl : lv_has ls 4 [(0, .ref h0), (1, .int kd), (2, .int (nI n))] := hl
  refine lv_aload_n hx hb dX1_init_0 rfl (lv_at hl 0 rfl) ?_
  refine ca_IN (As := []) (rest := []) ⟨hx, hb, hml, hown, hts⟩ (cc_X0_init l E A w h0) ⟨va_cnB 0 hts gX1_init_X0_init_n3 rfl rfl rfl hT.2.2.2.1 (hts (.initialized RX0) (by decide +kernel)) (by decide +kernel) ⟨(Nat.le_of_ble_eq_true rfl), (Nat.le_of_ble_eq_true rfl)⟩, rfl, hts (.instanceMethod yX0_init) (by decide +kernel)⟩ hT hI hA hS rfl rfl hl.1 (Nat.le_of_ble_eq_true rfl) dX1_init_1 ⟨(Nat.le_of_ble_eq_true rfl), (Nat.le_of_ble_eq_true rfl)⟩ (fun r w_2 H locs hp_1 hI hS => ?_)
  obtain ⟨rfl, rfl⟩ := hp_1
  refine W.eq (g2 := F0 m 4 ls []) rfl ?_
  refine lv_iload_n hx hb dX1_init_4 rfl (lv_at hl 1 rfl) ?_
  refine lv_if_eq (tgt := 13) hx hb dX1_init_5 (by decide) (fun c_3 => ?_) (fun c_3 => ?_)
  · refine lv_iconst (v := 1) hx hb dX1_init_13 (by decide) ?_
    refine lv_goto (tgt := 18) hx hb dX1_init_14 (by decide) ?_
    refine lv_istore_n (lv' := [(3, .int 1), (0, .ref h0), (1, .int kd), (2, .int (nI n))]) hx hb dX1_init_18 rfl hl (by decide) rfl (fun ls hl => ?_)
    refine lv_aload_n hx hb dX1_init_19 rfl (lv_at hl 1 rfl) ?_
    refine lv_iload_n hx hb dX1_init_20 rfl (lv_at hl 2 rfl) ?_
    refine wr_putF (ci := 0) (C := RX1) (T := TX1) (N := 4) (v := .int kd) (ty := .int) hx hb hts in_X1 tyX1 tyX1_ok nmX1 hown hT hI hS hc rfl 0 (by decide) (hts (.fieldLink RX1 9 "CopyRows$Row" "kind" "I") (by decide +kernel)) rfl hin rfl (by decide +kernel) rfl rfl (Nat.le_of_ble_eq_true rfl) dX1_init_21 (fun H locs hI hS => ?_)
    refine lv_aload_n hx hb dX1_init_24 rfl (lv_at hl 1 rfl) ?_
    refine lv_iload_n hx hb dX1_init_25 rfl (lv_at hl 3 rfl) ?_
    refine wr_putF (ci := 0) (C := RX1) (T := TX1) (N := 4) (v := .int (nI n)) (ty := .int) hx hb hts in_X1 tyX1 tyX1_ok nmX1 hown hT hI hS (va_up_self _ _ _) rfl 1 (by decide) (hts (.fieldLink RX1 15 "CopyRows$Row" "length" "I") (by decide +kernel)) rfl hin rfl (by decide +kernel) rfl rfl (Nat.le_of_ble_eq_true rfl) dX1_init_26 (fun H locs hI hS => ?_)
    refine lv_aload_n hx hb dX1_init_29 rfl (lv_at hl 1 rfl) ?_
    refine lv_iload_n hx hb dX1_init_30 rfl (lv_at hl 0 rfl) ?_
    refine lv_if_eq (tgt := 38) hx hb dX1_init_31 (by decide) (fun c => absurd c (by decide)) (fun _ => ?_)
    refine lv_iload_n hx hb dX1_init_34 rfl (lv_at hl 3 rfl) ?_
    refine lv_goto (tgt := 39) hx hb dX1_init_35 (by decide) ?_
    refine wr_newi (N := n) hx hb (hts (.arrayClass .int) (by decide +kernel)) hT hI hS hA (nI_pos (by omega)) (nI_clamp (by omega)) (by omega) (Nat.le_of_ble_eq_true rfl) (by show 0 + n ≤ 40; omega) dX1_init_39 (fun na H hna hI hS => ?_)
    refine W.widen (k := 1) (n := 40) (Nat.le_of_ble_eq_true rfl) (by omega) ?_
    have hna0 : h0 ≠ na := (nw_ne (va_up_self _ _ _) hna)
    refine wr_putF (ci := 0) (C := RX1) (T := TX1) (N := 4) (v := .ref na) (ty := .array .int) hx hb hts in_X1 tyX1 tyX1_ok nmX1 hown hT hI hS ((va_up_ne _ _ hna0).trans (va_up_self _ _ _)) rfl 2 (by decide) (hts (.fieldLink RX1 18 "CopyRows$Row" "numbers" "[I") (by decide +kernel)) rfl hin rfl (by decide +kernel) rfl rfl (Nat.le_of_ble_eq_true rfl) dX1_init_41 (fun H locs hI hS => ?_)
    refine lv_aload_n hx hb dX1_init_44 rfl (lv_at hl 1 rfl) ?_
    refine lv_iload_n hx hb dX1_init_45 rfl (lv_at hl 0 rfl) ?_
    refine lv_if_eq (tgt := 53) hx hb dX1_init_46 (by decide) (fun c => absurd c (by decide)) (fun _ => ?_)
    refine lv_iconst (v := 0) hx hb dX1_init_49 (by decide) ?_
    refine lv_goto (tgt := 54) hx hb dX1_init_50 (by decide) ?_
    refine wr_newq (N := 0) hx hb hown (hts (.classLink RX1 4 RX0) (by decide +kernel)) hT.2.1 1 rfl hT hI hS hA (by decide) (by decide) (by omega) (Nat.le_of_ble_eq_true rfl) ((Nat.le_of_ble_eq_true rfl)) dX1_init_54 (fun qa H hqa hI hS => ?_)
    refine W.widen (k := 2) (n := 40) (Nat.le_of_ble_eq_true rfl) (by omega) ?_
    have hqa0 : h0 ≠ qa := nw_ne (va_up_self _ _ _) hqa
    have hqna : na ≠ qa := nw_ne ((va_up_ne _ _ hna0.symm).trans (va_up_self _ _ _)) hqa
    refine wr_putF (ci := 0) (C := RX1) (T := TX1) (N := 4) (v := .ref qa) (ty := .array (.object "CopyRows$Part")) hx hb hts in_X1 tyX1 tyX1_ok nmX1 hown hT hI hS ((va_up_ne _ _ hqa0).trans (va_up_self _ _ _)) rfl 3 (by decide) (hts (.fieldLink RX1 22 "CopyRows$Row" "parts" "[LCopyRows$Part;") (by decide +kernel)) rfl hin rfl (by decide +kernel) rfl rfl (Nat.le_of_ble_eq_true rfl) dX1_init_57 (fun H locs hI hS => ?_)
    exact re_v hx hb hr hlocks hT hA hS hI (by
            refine ⟨rfl, na, qa, ?_, ?_, hqna, hna0.symm, hqa0.symm, va_up_self _ _ _, ?_, ?_, ?_⟩
            · simpa [va_up, hna0.symm] using hna
            · simpa [va_up, hqa0.symm, hqna.symm] using hqa
            · simp [va_up, hna0.symm, hqna]
            · simp [va_up, hqa0.symm]
            · intro a h1 h2 h3; simp [va_up, h1, h2, h3]) (Nat.le_of_ble_eq_true rfl) (Nat.le_of_ble_eq_true rfl) dX1_init_60
  · refine lv_iload_n hx hb dX1_init_8 rfl (lv_at hl 1 rfl) ?_
    refine lv_iconst (v := 1) hx hb dX1_init_9 (by decide) ?_
    refine lv_icmp_ne (tgt := 17) hx hb dX1_init_10 (by decide) (fun c_8 => ?_) (fun c_8 => ?_)
    · exact absurd hk (by grind)
    · refine lv_iconst (v := 1) hx hb dX1_init_13 (by decide) ?_
      refine lv_goto (tgt := 18) hx hb dX1_init_14 (by decide) ?_
      refine lv_istore_n (lv' := [(3, .int 1), (0, .ref h0), (1, .int kd), (2, .int (nI n))]) hx hb dX1_init_18 rfl hl (by decide) rfl (fun ls hl => ?_)
      refine lv_aload_n hx hb dX1_init_19 rfl (lv_at hl 1 rfl) ?_
      refine lv_iload_n hx hb dX1_init_20 rfl (lv_at hl 2 rfl) ?_
      refine wr_putF (ci := 0) (C := RX1) (T := TX1) (N := 4) (v := .int kd) (ty := .int) hx hb hts in_X1 tyX1 tyX1_ok nmX1 hown hT hI hS hc rfl 0 (by decide) (hts (.fieldLink RX1 9 "CopyRows$Row" "kind" "I") (by decide +kernel)) rfl hin rfl (by decide +kernel) rfl rfl (Nat.le_of_ble_eq_true rfl) dX1_init_21 (fun H locs hI hS => ?_)
      refine lv_aload_n hx hb dX1_init_24 rfl (lv_at hl 1 rfl) ?_
      refine lv_iload_n hx hb dX1_init_25 rfl (lv_at hl 3 rfl) ?_
      refine wr_putF (ci := 0) (C := RX1) (T := TX1) (N := 4) (v := .int (nI n)) (ty := .int) hx hb hts in_X1 tyX1 tyX1_ok nmX1 hown hT hI hS (va_up_self _ _ _) rfl 1 (by decide) (hts (.fieldLink RX1 15 "CopyRows$Row" "length" "I") (by decide +kernel)) rfl hin rfl (by decide +kernel) rfl rfl (Nat.le_of_ble_eq_true rfl) dX1_init_26 (fun H locs hI hS => ?_)
      refine lv_aload_n hx hb dX1_init_29 rfl (lv_at hl 1 rfl) ?_
      refine lv_iload_n hx hb dX1_init_30 rfl (lv_at hl 0 rfl) ?_
      refine lv_if_eq (tgt := 38) hx hb dX1_init_31 (by decide) (fun c => absurd c (by decide)) (fun _ => ?_)
      refine lv_iload_n hx hb dX1_init_34 rfl (lv_at hl 3 rfl) ?_
      refine lv_goto (tgt := 39) hx hb dX1_init_35 (by decide) ?_
      refine wr_newi (N := n) hx hb (hts (.arrayClass .int) (by decide +kernel)) hT hI hS hA (nI_pos (by omega)) (nI_clamp (by omega)) (by omega) (Nat.le_of_ble_eq_true rfl) (by show 0 + n ≤ 40; omega) dX1_init_39 (fun na H hna hI hS => ?_)
      refine W.widen (k := 1) (n := 40) (Nat.le_of_ble_eq_true rfl) (by omega) ?_
      have hna0 : h0 ≠ na := (nw_ne (va_up_self _ _ _) hna)
      refine wr_putF (ci := 0) (C := RX1) (T := TX1) (N := 4) (v := .ref na) (ty := .array .int) hx hb hts in_X1 tyX1 tyX1_ok nmX1 hown hT hI hS ((va_up_ne _ _ hna0).trans (va_up_self _ _ _)) rfl 2 (by decide) (hts (.fieldLink RX1 18 "CopyRows$Row" "numbers" "[I") (by decide +kernel)) rfl hin rfl (by decide +kernel) rfl rfl (Nat.le_of_ble_eq_true rfl) dX1_init_41 (fun H locs hI hS => ?_)
      refine lv_aload_n hx hb dX1_init_44 rfl (lv_at hl 1 rfl) ?_
      refine lv_iload_n hx hb dX1_init_45 rfl (lv_at hl 0 rfl) ?_
      refine lv_if_eq (tgt := 53) hx hb dX1_init_46 (by decide) (fun c => absurd c (by decide)) (fun _ => ?_)
      refine lv_iconst (v := 0) hx hb dX1_init_49 (by decide) ?_
      refine lv_goto (tgt := 54) hx hb dX1_init_50 (by decide) ?_
      refine wr_newq (N := 0) hx hb hown (hts (.classLink RX1 4 RX0) (by decide +kernel)) hT.2.1 1 rfl hT hI hS hA (by decide) (by decide) (by omega) (Nat.le_of_ble_eq_true rfl) ((Nat.le_of_ble_eq_true rfl)) dX1_init_54 (fun qa H hqa hI hS => ?_)
      refine W.widen (k := 2) (n := 40) (Nat.le_of_ble_eq_true rfl) (by omega) ?_
      have hqa0 : h0 ≠ qa := nw_ne (va_up_self _ _ _) hqa
      have hqna : na ≠ qa := nw_ne ((va_up_ne _ _ hna0.symm).trans (va_up_self _ _ _)) hqa
      refine wr_putF (ci := 0) (C := RX1) (T := TX1) (N := 4) (v := .ref qa) (ty := .array (.object "CopyRows$Part")) hx hb hts in_X1 tyX1 tyX1_ok nmX1 hown hT hI hS ((va_up_ne _ _ hqa0).trans (va_up_self _ _ _)) rfl 3 (by decide) (hts (.fieldLink RX1 22 "CopyRows$Row" "parts" "[LCopyRows$Part;") (by decide +kernel)) rfl hin rfl (by decide +kernel) rfl rfl (Nat.le_of_ble_eq_true rfl) dX1_init_57 (fun H locs hI hS => ?_)
      exact re_v hx hb hr hlocks hT hA hS hI (by
                refine ⟨rfl, na, qa, ?_, ?_, hqna, hna0.symm, hqa0.symm, va_up_self _ _ _, ?_, ?_, ?_⟩
                · simpa [va_up, hna0.symm] using hna
                · simpa [va_up, hqa0.symm, hqna.symm] using hqa
                · simp [va_up, hna0.symm, hqna]
                · simp [va_up, hqa0.symm]
                · intro a h1 h2 h3; simp [va_up, h1, h2, h3]) (Nat.le_of_ble_eq_true rfl) (Nat.le_of_ble_eq_true rfl) dX1_init_60

set_option maxHeartbeats 4000000 in
set_option maxRecDepth 100000 in
theorem cc_X1_init_p (l : Launch) (E : En) (A : Nat → Prop) (w : Wd) {h0 : Nat} {c0 c1 : Int32} {v0 v1 : Value} (kd : Int32) (n : Nat) (hn : n ≤ 40) (hk : ¬ isN kd) (hc : w h0 = some (.inr (0, [.int c0, .int c1, v0, v1]))) : Ct l yX1_init wsX1_init ({ frames := 2, cells := 2, slots := 40, locals := 40 } : Room) E A w [.ref h0, .int kd, .int (nI n)] (fun r w' => r = none ∧ ∃ na qa, w na = none ∧ w qa = none ∧ na ≠ qa ∧ na ≠ h0 ∧ qa ≠ h0 ∧ w' h0 = some (eRow kd (nI n) na qa) ∧ w' na = some (eI E 0 (fun _ => 0)) ∧ w' qa = some (eP E n (fun _ => none)) ∧ ∀ a, a ≠ h0 → a ≠ na → a ≠ qa → w' a = w a) 2 40 := by
  refine Met.ofW (cc := cX1_init) (maxL := 4) (ret := none) (by decide) rfl ?_
  intro pp0 ee0 s m args below meth cc0 s₁ B hml hv
  obtain ⟨rfl, hT, hI, hA⟩ := hv
  have hx := B.exec
  have hb := B.bytes
  have hr := B.returns
  have hts := atoms_spec (ws := wsX1_init) B.pre
  have hown : s.vm.findClass RX1 = some m.cls := findClass_of_methodNamed B.named
  have hlocks := B.notSynchronized
  have hin : meth.name = "<init>" := (name_of_methodNamed B.named B.method).1
  have in_X1 : ∀ w ∈ wsX10, w ∈ wsX1_init := by decide +kernel
  have hS : va_S A s.heap s.heap [] := va_S.rf
  have hl := lv_entry ([.ref h0, .int kd, .int (nI n)]) (n := 4) (Nat.le_of_ble_eq_true rfl)
  rw [lg_entry_eq]
  generalize (lg_sl ([.ref h0, .int kd, .int (nI n)]) ++ List.replicate (4 - (lg_sl ([.ref h0, .int kd, .int (nI n)])).length) Slot.unset).toArray = ls at hl ⊢
  have hl : lv_has ls 4 [(0, .ref h0), (1, .int kd), (2, .int (nI n))] := hl
  refine lv_aload_n hx hb dX1_init_0 rfl (lv_at hl 0 rfl) ?_
  refine ca_IN (As := []) (rest := []) ⟨hx, hb, hml, hown, hts⟩ (cc_X0_init l E A w h0) ⟨va_cnB 0 hts gX1_init_X0_init_n3 rfl rfl rfl hT.2.2.2.1 (hts (.initialized RX0) (by decide +kernel)) (by decide +kernel) ⟨(Nat.le_of_ble_eq_true rfl), (Nat.le_of_ble_eq_true rfl)⟩, rfl, hts (.instanceMethod yX0_init) (by decide +kernel)⟩ hT hI hA hS rfl rfl hl.1 (Nat.le_of_ble_eq_true rfl) dX1_init_1 ⟨(Nat.le_of_ble_eq_true rfl), (Nat.le_of_ble_eq_true rfl)⟩ (fun r w_2 H locs hp_1 hI hS => ?_)
  obtain ⟨rfl, rfl⟩ := hp_1
  refine W.eq (g2 := F0 m 4 ls []) rfl ?_
  refine lv_iload_n hx hb dX1_init_4 rfl (lv_at hl 1 rfl) ?_
  refine lv_if_eq (tgt := 13) hx hb dX1_init_5 (by decide) (fun c_3 => ?_) (fun c_3 => ?_)
  · exact absurd hk (by grind)
  · refine lv_iload_n hx hb dX1_init_8 rfl (lv_at hl 1 rfl) ?_
    refine lv_iconst (v := 1) hx hb dX1_init_9 (by decide) ?_
    refine lv_icmp_ne (tgt := 17) hx hb dX1_init_10 (by decide) (fun c_4 => ?_) (fun c_4 => ?_)
    · refine lv_iconst (v := 0) hx hb dX1_init_17 (by decide) ?_
      refine lv_istore_n (lv' := [(3, .int 0), (0, .ref h0), (1, .int kd), (2, .int (nI n))]) hx hb dX1_init_18 rfl hl (by decide) rfl (fun ls hl => ?_)
      refine lv_aload_n hx hb dX1_init_19 rfl (lv_at hl 1 rfl) ?_
      refine lv_iload_n hx hb dX1_init_20 rfl (lv_at hl 2 rfl) ?_
      refine wr_putF (ci := 0) (C := RX1) (T := TX1) (N := 4) (v := .int kd) (ty := .int) hx hb hts in_X1 tyX1 tyX1_ok nmX1 hown hT hI hS hc rfl 0 (by decide) (hts (.fieldLink RX1 9 "CopyRows$Row" "kind" "I") (by decide +kernel)) rfl hin rfl (by decide +kernel) rfl rfl (Nat.le_of_ble_eq_true rfl) dX1_init_21 (fun H locs hI hS => ?_)
      refine lv_aload_n hx hb dX1_init_24 rfl (lv_at hl 1 rfl) ?_
      refine lv_iload_n hx hb dX1_init_25 rfl (lv_at hl 3 rfl) ?_
      refine wr_putF (ci := 0) (C := RX1) (T := TX1) (N := 4) (v := .int (nI n)) (ty := .int) hx hb hts in_X1 tyX1 tyX1_ok nmX1 hown hT hI hS (va_up_self _ _ _) rfl 1 (by decide) (hts (.fieldLink RX1 15 "CopyRows$Row" "length" "I") (by decide +kernel)) rfl hin rfl (by decide +kernel) rfl rfl (Nat.le_of_ble_eq_true rfl) dX1_init_26 (fun H locs hI hS => ?_)
      refine lv_aload_n hx hb dX1_init_29 rfl (lv_at hl 1 rfl) ?_
      refine lv_iload_n hx hb dX1_init_30 rfl (lv_at hl 0 rfl) ?_
      refine lv_if_eq (tgt := 38) hx hb dX1_init_31 (by decide) (fun _ => ?_) (fun c => absurd c (by decide))
      refine lv_iconst (v := 0) hx hb dX1_init_38 (by decide) ?_
      refine wr_newi (N := 0) hx hb (hts (.arrayClass .int) (by decide +kernel)) hT hI hS hA (by decide) (by decide) (by omega) (Nat.le_of_ble_eq_true rfl) ((Nat.le_of_ble_eq_true rfl)) dX1_init_39 (fun na H hna hI hS => ?_)
      refine W.widen (k := 1) (n := 0) (Nat.le_of_ble_eq_true rfl) (by omega) ?_
      have hna0 : h0 ≠ na := (nw_ne (va_up_self _ _ _) hna)
      refine wr_putF (ci := 0) (C := RX1) (T := TX1) (N := 4) (v := .ref na) (ty := .array .int) hx hb hts in_X1 tyX1 tyX1_ok nmX1 hown hT hI hS ((va_up_ne _ _ hna0).trans (va_up_self _ _ _)) rfl 2 (by decide) (hts (.fieldLink RX1 18 "CopyRows$Row" "numbers" "[I") (by decide +kernel)) rfl hin rfl (by decide +kernel) rfl rfl (Nat.le_of_ble_eq_true rfl) dX1_init_41 (fun H locs hI hS => ?_)
      refine lv_aload_n hx hb dX1_init_44 rfl (lv_at hl 1 rfl) ?_
      refine lv_iload_n hx hb dX1_init_45 rfl (lv_at hl 0 rfl) ?_
      refine lv_if_eq (tgt := 53) hx hb dX1_init_46 (by decide) (fun _ => ?_) (fun c => absurd c (by decide))
      refine lv_iload_n hx hb dX1_init_53 rfl (lv_at hl 3 rfl) ?_
      refine wr_newq (N := n) hx hb hown (hts (.classLink RX1 4 RX0) (by decide +kernel)) hT.2.1 1 rfl hT hI hS hA (nI_pos (by omega)) (nI_clamp (by omega)) (by omega) (Nat.le_of_ble_eq_true rfl) (by show 0 + n ≤ 40; omega) dX1_init_54 (fun qa H hqa hI hS => ?_)
      refine W.widen (k := 2) (n := 40) (Nat.le_of_ble_eq_true rfl) (by omega) ?_
      have hqa0 : h0 ≠ qa := nw_ne (va_up_self _ _ _) hqa
      have hqna : na ≠ qa := nw_ne ((va_up_ne _ _ hna0.symm).trans (va_up_self _ _ _)) hqa
      refine wr_putF (ci := 0) (C := RX1) (T := TX1) (N := 4) (v := .ref qa) (ty := .array (.object "CopyRows$Part")) hx hb hts in_X1 tyX1 tyX1_ok nmX1 hown hT hI hS ((va_up_ne _ _ hqa0).trans (va_up_self _ _ _)) rfl 3 (by decide) (hts (.fieldLink RX1 22 "CopyRows$Row" "parts" "[LCopyRows$Part;") (by decide +kernel)) rfl hin rfl (by decide +kernel) rfl rfl (Nat.le_of_ble_eq_true rfl) dX1_init_57 (fun H locs hI hS => ?_)
      exact re_v hx hb hr hlocks hT hA hS hI (by
                refine ⟨rfl, na, qa, ?_, ?_, hqna, hna0.symm, hqa0.symm, va_up_self _ _ _, ?_, ?_, ?_⟩
                · simpa [va_up, hna0.symm] using hna
                · simpa [va_up, hqa0.symm, hqna.symm] using hqa
                · simp [va_up, hna0.symm, hqna]
                · simp [va_up, hqa0.symm]
                · intro a h1 h2 h3; simp [va_up, h1, h2, h3]) (Nat.le_of_ble_eq_true rfl) (Nat.le_of_ble_eq_true rfl) dX1_init_60
    · exact absurd hk (by grind)

set_option maxHeartbeats 4000000 in
set_option maxRecDepth 100000 in
theorem cc_X1_fitsInto (l : Launch) (E : En) (A : Nat → Prop) (w : Wd) {h0 : Nat} (k : Int32) : Ct l yX1_fitsInto wsX1_fitsInto ({ frames := 0, cells := 0, slots := 0, locals := 0 } : Room) E A w [.ref h0, .int k] (fun r w' => w = w' ∧ (((k = 2) ∧ r = some (.int 1)) ∨ (¬ (k = 2) ∧ r = some (.int 0)))) 0 0 := by
  refine Met.ofW (cc := cX1_fitsInto) (maxL := 2) (ret := (some .boolean)) (by decide) rfl ?_
  intro pp0 ee0 s m args below meth cc0 s₁ B hml hv
  obtain ⟨rfl, hT, hI, hA⟩ := hv
  have hx := B.exec
  have hb := B.bytes
  have hr := B.returns
  have hts := atoms_spec (ws := wsX1_fitsInto) B.pre
  have hown : s.vm.findClass RX1 = some m.cls := findClass_of_methodNamed B.named
  have hlocks := B.notSynchronized
  have hS : va_S A s.heap s.heap [] := va_S.rf
  have hl := lv_entry ([.ref h0, .int k]) (n := 2) (Nat.le_of_ble_eq_true rfl)
  rw [lg_entry_eq]
  generalize (lg_sl ([.ref h0, .int k]) ++ List.replicate (2 - (lg_sl ([.ref h0, .int k])).length) Slot.unset).toArray = ls at hl ⊢
  have hl : lv_has ls 2 [(0, .ref h0), (1, .int k)] := hl
  refine lv_iload_n hx hb dX1_fitsInto_0 rfl (lv_at hl 1 rfl) ?_
  refine lv_iconst (v := 2) hx hb dX1_fitsInto_1 (by decide) ?_
  refine lv_icmp_ne (tgt := 9) hx hb dX1_fitsInto_2 (by decide) (fun c_1 => ?_) (fun c_1 => ?_)
  · refine lv_iconst (v := 0) hx hb dX1_fitsInto_9 (by decide) ?_
    exact re_z hx hb hr hlocks hT hA hS hI (by decide) (by refine ⟨rfl, Or.inr ⟨?_, rfl⟩⟩; grind) (Nat.le_of_ble_eq_true rfl) (Nat.le_of_ble_eq_true rfl) dX1_fitsInto_10
  · refine lv_iconst (v := 1) hx hb dX1_fitsInto_5 (by decide) ?_
    refine lv_goto (tgt := 10) hx hb dX1_fitsInto_6 (by decide) ?_
    exact re_z hx hb hr hlocks hT hA hS hI (by decide) (by refine ⟨rfl, Or.inl ⟨?_, rfl⟩⟩; grind) (Nat.le_of_ble_eq_true rfl) (Nat.le_of_ble_eq_true rfl) dX1_fitsInto_10

set_option maxHeartbeats 4000000 in
set_option maxRecDepth 100000 in
theorem cc_X1_shown (l : Launch) (E : En) (A : Nat → Prop) (w : Wd) {h0 na qa : Nat} {kd ln : Int32} (hc : w h0 = some (eRow kd ln na qa)) : Ct l yX1_shown wsX1_shown ({ frames := 0, cells := 0, slots := 0, locals := 0 } : Room) E A w [.ref h0] (fun r w' => w = w' ∧ r = some (.int ln)) 0 0 := by
  refine Met.ofW (cc := cX1_shown) (maxL := 1) (ret := (some .int)) (by decide) rfl ?_
  intro pp0 ee0 s m args below meth cc0 s₁ B hml hv
  obtain ⟨rfl, hT, hI, hA⟩ := hv
  have hx := B.exec
  have hb := B.bytes
  have hr := B.returns
  have hts := atoms_spec (ws := wsX1_shown) B.pre
  have hown : s.vm.findClass RX1 = some m.cls := findClass_of_methodNamed B.named
  have hlocks := B.notSynchronized
  have in_X1 : ∀ w ∈ wsX10, w ∈ wsX1_shown := by decide +kernel
  have hS : va_S A s.heap s.heap [] := va_S.rf
  have hl := lv_entry ([.ref h0]) (n := 1) (Nat.le_of_ble_eq_true rfl)
  rw [lg_entry_eq]
  generalize (lg_sl ([.ref h0]) ++ List.replicate (1 - (lg_sl ([.ref h0])).length) Slot.unset).toArray = ls at hl ⊢
  have hl : lv_has ls 1 [(0, .ref h0)] := hl
  refine lv_aload_n hx hb dX1_shown_0 rfl (lv_at hl 0 rfl) ?_
  refine wr_get (ci := 0) (C := RX1) (T := TX1) (N := 4) (v := .int ln) hx hb hts in_X1 hown hT hI hc rfl 1 (by decide) (hts (.fieldLink RX1 15 "CopyRows$Row" "length" "I") (by decide +kernel)) rfl dX1_shown_1 ?_
  exact re_i hx hb hr hlocks hT hA hS hI (⟨rfl, rfl⟩) (Nat.le_of_ble_eq_true rfl) (Nat.le_of_ble_eq_true rfl) dX1_shown_4

set_option maxHeartbeats 4000000 in
set_option maxRecDepth 100000 in
theorem cc_X1_isOfNumbers (l : Launch) (E : En) (A : Nat → Prop) (w : Wd) {h0 na qa : Nat} {kd ln : Int32} (hc : w h0 = some (eRow kd ln na qa)) : Ct l yX1_isOfNumbers wsX1_isOfNumbers ({ frames := 0, cells := 0, slots := 0, locals := 0 } : Room) E A w [.ref h0] (fun r w' => w = w' ∧ (((isN kd) ∧ r = some (.int 1)) ∨ (¬ (isN kd) ∧ r = some (.int 0)))) 0 0 := by
  refine Met.ofW (cc := cX1_isOfNumbers) (maxL := 1) (ret := (some .boolean)) (by decide) rfl ?_
  intro pp0 ee0 s m args below meth cc0 s₁ B hml hv
  obtain ⟨rfl, hT, hI, hA⟩ := hv
  have hx := B.exec
  have hb := B.bytes
  have hr := B.returns
  have hts := atoms_spec (ws := wsX1_isOfNumbers) B.pre
  have hown : s.vm.findClass RX1 = some m.cls := findClass_of_methodNamed B.named
  have hlocks := B.notSynchronized
  have in_X1 : ∀ w ∈ wsX10, w ∈ wsX1_isOfNumbers := by decide +kernel
  have hS : va_S A s.heap s.heap [] := va_S.rf
  have hl := lv_entry ([.ref h0]) (n := 1) (Nat.le_of_ble_eq_true rfl)
  rw [lg_entry_eq]
  generalize (lg_sl ([.ref h0]) ++ List.replicate (1 - (lg_sl ([.ref h0])).length) Slot.unset).toArray = ls at hl ⊢
  have hl : lv_has ls 1 [(0, .ref h0)] := hl
  refine lv_aload_n hx hb dX1_isOfNumbers_0 rfl (lv_at hl 0 rfl) ?_
  refine wr_get (ci := 0) (C := RX1) (T := TX1) (N := 4) (v := .int kd) hx hb hts in_X1 hown hT hI hc rfl 0 (by decide) (hts (.fieldLink RX1 9 "CopyRows$Row" "kind" "I") (by decide +kernel)) rfl dX1_isOfNumbers_1 ?_
  refine lv_if_eq (tgt := 15) hx hb dX1_isOfNumbers_4 (by decide) (fun c_1 => ?_) (fun c_1 => ?_)
  · refine lv_iconst (v := 1) hx hb dX1_isOfNumbers_15 (by decide) ?_
    refine lv_goto (tgt := 20) hx hb dX1_isOfNumbers_16 (by decide) ?_
    exact re_z hx hb hr hlocks hT hA hS hI (by decide) (by refine ⟨rfl, Or.inl ⟨?_, rfl⟩⟩; grind) (Nat.le_of_ble_eq_true rfl) (Nat.le_of_ble_eq_true rfl) dX1_isOfNumbers_20
  · refine lv_aload_n hx hb dX1_isOfNumbers_7 rfl (lv_at hl 0 rfl) ?_
    refine wr_get (ci := 0) (C := RX1) (T := TX1) (N := 4) (v := .int kd) hx hb hts in_X1 hown hT hI hc rfl 0 (by decide) (hts (.fieldLink RX1 9 "CopyRows$Row" "kind" "I") (by decide +kernel)) rfl dX1_isOfNumbers_8 ?_
    refine lv_iconst (v := 1) hx hb dX1_isOfNumbers_11 (by decide) ?_
    refine lv_icmp_ne (tgt := 19) hx hb dX1_isOfNumbers_12 (by decide) (fun c_2 => ?_) (fun c_2 => ?_)
    · refine lv_iconst (v := 0) hx hb dX1_isOfNumbers_19 (by decide) ?_
      exact re_z hx hb hr hlocks hT hA hS hI (by decide) (by refine ⟨rfl, Or.inr ⟨?_, rfl⟩⟩; grind) (Nat.le_of_ble_eq_true rfl) (Nat.le_of_ble_eq_true rfl) dX1_isOfNumbers_20
    · refine lv_iconst (v := 1) hx hb dX1_isOfNumbers_15 (by decide) ?_
      refine lv_goto (tgt := 20) hx hb dX1_isOfNumbers_16 (by decide) ?_
      exact re_z hx hb hr hlocks hT hA hS hI (by decide) (by refine ⟨rfl, Or.inl ⟨?_, rfl⟩⟩; grind) (Nat.le_of_ble_eq_true rfl) (Nat.le_of_ble_eq_true rfl) dX1_isOfNumbers_20

set_option maxHeartbeats 4000000 in
set_option maxRecDepth 100000 in
theorem cc_X1_has (l : Launch) (E : En) (A : Nat → Prop) (w : Wd) {h0 na qa : Nat} {kd ln : Int32} (k : Int32) (hc : w h0 = some (eRow kd ln na qa)) : Ct l yX1_has wsX1_has ({ frames := 0, cells := 0, slots := 0, locals := 0 } : Room) E A w [.ref h0, .int k] (fun r w' => w = w' ∧ (((¬ k < 0 ∧ ¬ ln ≤ k) ∧ r = some (.int 1)) ∨ (¬ (¬ k < 0 ∧ ¬ ln ≤ k) ∧ r = some (.int 0)))) 0 0 := by
  refine Met.ofW (cc := cX1_has) (maxL := 2) (ret := (some .boolean)) (by decide) rfl ?_
  intro pp0 ee0 s m args below meth cc0 s₁ B hml hv
  obtain ⟨rfl, hT, hI, hA⟩ := hv
  have hx := B.exec
  have hb := B.bytes
  have hr := B.returns
  have hts := atoms_spec (ws := wsX1_has) B.pre
  have hown : s.vm.findClass RX1 = some m.cls := findClass_of_methodNamed B.named
  have hlocks := B.notSynchronized
  have in_X1 : ∀ w ∈ wsX10, w ∈ wsX1_has := by decide +kernel
  have hS : va_S A s.heap s.heap [] := va_S.rf
  have hl := lv_entry ([.ref h0, .int k]) (n := 2) (Nat.le_of_ble_eq_true rfl)
  rw [lg_entry_eq]
  generalize (lg_sl ([.ref h0, .int k]) ++ List.replicate (2 - (lg_sl ([.ref h0, .int k])).length) Slot.unset).toArray = ls at hl ⊢
  have hl : lv_has ls 2 [(0, .ref h0), (1, .int k)] := hl
  refine lv_iload_n hx hb dX1_has_0 rfl (lv_at hl 1 rfl) ?_
  refine lv_if_lt (tgt := 16) hx hb dX1_has_1 (by decide) (fun c_1 => ?_) (fun c_1 => ?_)
  · refine lv_iconst (v := 0) hx hb dX1_has_16 (by decide) ?_
    exact re_z hx hb hr hlocks hT hA hS hI (by decide) (by refine ⟨rfl, Or.inr ⟨?_, rfl⟩⟩; grind) (Nat.le_of_ble_eq_true rfl) (Nat.le_of_ble_eq_true rfl) dX1_has_17
  · refine lv_iload_n hx hb dX1_has_4 rfl (lv_at hl 1 rfl) ?_
    refine lv_aload_n hx hb dX1_has_5 rfl (lv_at hl 0 rfl) ?_
    refine wr_get (ci := 0) (C := RX1) (T := TX1) (N := 4) (v := .int ln) hx hb hts in_X1 hown hT hI hc rfl 1 (by decide) (hts (.fieldLink RX1 15 "CopyRows$Row" "length" "I") (by decide +kernel)) rfl dX1_has_6 ?_
    refine lv_icmp_ge (tgt := 16) hx hb dX1_has_9 (by decide) (fun c_2 => ?_) (fun c_2 => ?_)
    · refine lv_iconst (v := 0) hx hb dX1_has_16 (by decide) ?_
      exact re_z hx hb hr hlocks hT hA hS hI (by decide) (by refine ⟨rfl, Or.inr ⟨?_, rfl⟩⟩; grind) (Nat.le_of_ble_eq_true rfl) (Nat.le_of_ble_eq_true rfl) dX1_has_17
    · refine lv_iconst (v := 1) hx hb dX1_has_12 (by decide) ?_
      refine lv_goto (tgt := 17) hx hb dX1_has_13 (by decide) ?_
      exact re_z hx hb hr hlocks hT hA hS hI (by decide) (by refine ⟨rfl, Or.inl ⟨?_, rfl⟩⟩; grind) (Nat.le_of_ble_eq_true rfl) (Nat.le_of_ble_eq_true rfl) dX1_has_17

set_option maxHeartbeats 4000000 in
set_option maxRecDepth 100000 in
theorem cc_X1_hasRange (l : Launch) (E : En) (A : Nat → Prop) (w : Wd) {h0 na qa : Nat} {kd ln : Int32} (i n : Int32) (hc : w h0 = some (eRow kd ln na qa)) : Ct l yX1_hasRange wsX1_hasRange ({ frames := 0, cells := 0, slots := 0, locals := 0 } : Room) E A w [.ref h0, .int i, .int n] (fun r w' => w = w' ∧ (((¬ i < 0 ∧ ¬ n < 0 ∧ ¬ ln < i ∧ ¬ ln - i < n) ∧ r = some (.int 1)) ∨ (¬ (¬ i < 0 ∧ ¬ n < 0 ∧ ¬ ln < i ∧ ¬ ln - i < n) ∧ r = some (.int 0)))) 0 0 := by
  refine Met.ofW (cc := cX1_hasRange) (maxL := 3) (ret := (some .boolean)) (by decide) rfl ?_
  intro pp0 ee0 s m args below meth cc0 s₁ B hml hv
  obtain ⟨rfl, hT, hI, hA⟩ := hv
  have hx := B.exec
  have hb := B.bytes
  have hr := B.returns
  have hts := atoms_spec (ws := wsX1_hasRange) B.pre
  have hown : s.vm.findClass RX1 = some m.cls := findClass_of_methodNamed B.named
  have hlocks := B.notSynchronized
  have in_X1 : ∀ w ∈ wsX10, w ∈ wsX1_hasRange := by decide +kernel
  have hS : va_S A s.heap s.heap [] := va_S.rf
  have hl := lv_entry ([.ref h0, .int i, .int n]) (n := 3) (Nat.le_of_ble_eq_true rfl)
  rw [lg_entry_eq]
  generalize (lg_sl ([.ref h0, .int i, .int n]) ++ List.replicate (3 - (lg_sl ([.ref h0, .int i, .int n])).length) Slot.unset).toArray = ls at hl ⊢
  have hl : lv_has ls 3 [(0, .ref h0), (1, .int i), (2, .int n)] := hl
  refine lv_iload_n hx hb dX1_hasRange_0 rfl (lv_at hl 1 rfl) ?_
  refine lv_if_lt (tgt := 30) hx hb dX1_hasRange_1 (by decide) (fun c_1 => ?_) (fun c_1 => ?_)
  · refine lv_iconst (v := 0) hx hb dX1_hasRange_30 (by decide) ?_
    exact re_z hx hb hr hlocks hT hA hS hI (by decide) (by refine ⟨rfl, Or.inr ⟨?_, rfl⟩⟩; grind) (Nat.le_of_ble_eq_true rfl) (Nat.le_of_ble_eq_true rfl) dX1_hasRange_31
  · refine lv_iload_n hx hb dX1_hasRange_4 rfl (lv_at hl 2 rfl) ?_
    refine lv_if_lt (tgt := 30) hx hb dX1_hasRange_5 (by decide) (fun c_2 => ?_) (fun c_2 => ?_)
    · refine lv_iconst (v := 0) hx hb dX1_hasRange_30 (by decide) ?_
      exact re_z hx hb hr hlocks hT hA hS hI (by decide) (by refine ⟨rfl, Or.inr ⟨?_, rfl⟩⟩; grind) (Nat.le_of_ble_eq_true rfl) (Nat.le_of_ble_eq_true rfl) dX1_hasRange_31
    · refine lv_iload_n hx hb dX1_hasRange_8 rfl (lv_at hl 1 rfl) ?_
      refine lv_aload_n hx hb dX1_hasRange_9 rfl (lv_at hl 0 rfl) ?_
      refine wr_get (ci := 0) (C := RX1) (T := TX1) (N := 4) (v := .int ln) hx hb hts in_X1 hown hT hI hc rfl 1 (by decide) (hts (.fieldLink RX1 15 "CopyRows$Row" "length" "I") (by decide +kernel)) rfl dX1_hasRange_10 ?_
      refine lv_icmp_gt (tgt := 30) hx hb dX1_hasRange_13 (by decide) (fun c_3 => ?_) (fun c_3 => ?_)
      · refine lv_iconst (v := 0) hx hb dX1_hasRange_30 (by decide) ?_
        exact re_z hx hb hr hlocks hT hA hS hI (by decide) (by refine ⟨rfl, Or.inr ⟨?_, rfl⟩⟩; grind) (Nat.le_of_ble_eq_true rfl) (Nat.le_of_ble_eq_true rfl) dX1_hasRange_31
      · refine lv_iload_n hx hb dX1_hasRange_16 rfl (lv_at hl 2 rfl) ?_
        refine lv_aload_n hx hb dX1_hasRange_17 rfl (lv_at hl 0 rfl) ?_
        refine wr_get (ci := 0) (C := RX1) (T := TX1) (N := 4) (v := .int ln) hx hb hts in_X1 hown hT hI hc rfl 1 (by decide) (hts (.fieldLink RX1 15 "CopyRows$Row" "length" "I") (by decide +kernel)) rfl dX1_hasRange_18 ?_
        refine lv_iload_n hx hb dX1_hasRange_21 rfl (lv_at hl 1 rfl) ?_
        refine lv_isub hx hb dX1_hasRange_22 ?_
        refine lv_icmp_gt (tgt := 30) hx hb dX1_hasRange_23 (by decide) (fun c_4 => ?_) (fun c_4 => ?_)
        · refine lv_iconst (v := 0) hx hb dX1_hasRange_30 (by decide) ?_
          exact re_z hx hb hr hlocks hT hA hS hI (by decide) (by refine ⟨rfl, Or.inr ⟨?_, rfl⟩⟩; grind) (Nat.le_of_ble_eq_true rfl) (Nat.le_of_ble_eq_true rfl) dX1_hasRange_31
        · refine lv_iconst (v := 1) hx hb dX1_hasRange_26 (by decide) ?_
          refine lv_goto (tgt := 31) hx hb dX1_hasRange_27 (by decide) ?_
          exact re_z hx hb hr hlocks hT hA hS hI (by decide) (by refine ⟨rfl, Or.inl ⟨?_, rfl⟩⟩; grind) (Nat.le_of_ble_eq_true rfl) (Nat.le_of_ble_eq_true rfl) dX1_hasRange_31

set_option maxHeartbeats 4000000 in
set_option maxRecDepth 100000 in
theorem cc_X2_fitsInto (l : Launch) (E : En) (A : Nat → Prop) (w : Wd) {h0 : Nat} {cv nv : Int32} (k : Int32) (hc : w h0 = some (eTh cv nv)) : Ct l yX2_fitsInto wsX2_fitsInto ({ frames := 0, cells := 0, slots := 0, locals := 0 } : Room) E A w [.ref h0, .int k] (fun r w' => w = w' ∧ (((fT k cv) ∧ r = some (.int 1)) ∨ (¬ (fT k cv) ∧ r = some (.int 0)))) 0 0 := by
  refine Met.ofW (cc := cX2_fitsInto) (maxL := 2) (ret := (some .boolean)) (by decide) rfl ?_
  intro pp0 ee0 s m args below meth cc0 s₁ B hml hv
  obtain ⟨rfl, hT, hI, hA⟩ := hv
  have hx := B.exec
  have hb := B.bytes
  have hr := B.returns
  have hts := atoms_spec (ws := wsX2_fitsInto) B.pre
  have hown : s.vm.findClass RX2 = some m.cls := findClass_of_methodNamed B.named
  have hlocks := B.notSynchronized
  have in_X2 : ∀ w ∈ wsX20, w ∈ wsX2_fitsInto := by decide +kernel
  have hS : va_S A s.heap s.heap [] := va_S.rf
  have hl := lv_entry ([.ref h0, .int k]) (n := 2) (Nat.le_of_ble_eq_true rfl)
  rw [lg_entry_eq]
  generalize (lg_sl ([.ref h0, .int k]) ++ List.replicate (2 - (lg_sl ([.ref h0, .int k])).length) Slot.unset).toArray = ls at hl ⊢
  have hl : lv_has ls 2 [(0, .ref h0), (1, .int k)] := hl
  refine lv_iload_n hx hb dX2_fitsInto_0 rfl (lv_at hl 1 rfl) ?_
  refine lv_iconst (v := 3) hx hb dX2_fitsInto_1 (by decide) ?_
  refine lv_icmp_eq (tgt := 31) hx hb dX2_fitsInto_2 (by decide) (fun c_1 => ?_) (fun c_1 => ?_)
  · refine lv_iconst (v := 1) hx hb dX2_fitsInto_31 (by decide) ?_
    refine lv_goto (tgt := 36) hx hb dX2_fitsInto_32 (by decide) ?_
    exact re_z hx hb hr hlocks hT hA hS hI (by decide) (by refine ⟨rfl, Or.inl ⟨?_, rfl⟩⟩; grind) (Nat.le_of_ble_eq_true rfl) (Nat.le_of_ble_eq_true rfl) dX2_fitsInto_36
  · refine lv_iload_n hx hb dX2_fitsInto_5 rfl (lv_at hl 1 rfl) ?_
    refine lv_iconst (v := 4) hx hb dX2_fitsInto_6 (by decide) ?_
    refine lv_icmp_ne (tgt := 18) hx hb dX2_fitsInto_7 (by decide) (fun c_2 => ?_) (fun c_2 => ?_)
    · refine lv_iload_n hx hb dX2_fitsInto_18 rfl (lv_at hl 1 rfl) ?_
      refine lv_iconst (v := 5) hx hb dX2_fitsInto_19 (by decide) ?_
      refine lv_icmp_ne (tgt := 35) hx hb dX2_fitsInto_20 (by decide) (fun c_3 => ?_) (fun c_3 => ?_)
      · refine lv_iconst (v := 0) hx hb dX2_fitsInto_35 (by decide) ?_
        exact re_z hx hb hr hlocks hT hA hS hI (by decide) (by refine ⟨rfl, Or.inr ⟨?_, rfl⟩⟩; grind) (Nat.le_of_ble_eq_true rfl) (Nat.le_of_ble_eq_true rfl) dX2_fitsInto_36
      · refine lv_aload_n hx hb dX2_fitsInto_23 rfl (lv_at hl 0 rfl) ?_
        refine wr_get (ci := 1) (C := RX2) (T := TX2) (N := 2) (v := .int cv) hx hb hts in_X2 hown hT hI hc rfl 0 (by decide) (hts (.fieldLink RX2 9 "CopyRows$Thing" "cls" "I") (by decide +kernel)) rfl dX2_fitsInto_24 ?_
        refine lv_iconst (v := 2) hx hb dX2_fitsInto_27 (by decide) ?_
        refine lv_icmp_ne (tgt := 35) hx hb dX2_fitsInto_28 (by decide) (fun c_4 => ?_) (fun c_4 => ?_)
        · refine lv_iconst (v := 0) hx hb dX2_fitsInto_35 (by decide) ?_
          exact re_z hx hb hr hlocks hT hA hS hI (by decide) (by refine ⟨rfl, Or.inr ⟨?_, rfl⟩⟩; grind) (Nat.le_of_ble_eq_true rfl) (Nat.le_of_ble_eq_true rfl) dX2_fitsInto_36
        · refine lv_iconst (v := 1) hx hb dX2_fitsInto_31 (by decide) ?_
          refine lv_goto (tgt := 36) hx hb dX2_fitsInto_32 (by decide) ?_
          exact re_z hx hb hr hlocks hT hA hS hI (by decide) (by refine ⟨rfl, Or.inl ⟨?_, rfl⟩⟩; grind) (Nat.le_of_ble_eq_true rfl) (Nat.le_of_ble_eq_true rfl) dX2_fitsInto_36
    · refine lv_aload_n hx hb dX2_fitsInto_10 rfl (lv_at hl 0 rfl) ?_
      refine wr_get (ci := 1) (C := RX2) (T := TX2) (N := 2) (v := .int cv) hx hb hts in_X2 hown hT hI hc rfl 0 (by decide) (hts (.fieldLink RX2 9 "CopyRows$Thing" "cls" "I") (by decide +kernel)) rfl dX2_fitsInto_11 ?_
      refine lv_iconst (v := 1) hx hb dX2_fitsInto_14 (by decide) ?_
      refine lv_icmp_eq (tgt := 31) hx hb dX2_fitsInto_15 (by decide) (fun c_5 => ?_) (fun c_5 => ?_)
      · refine lv_iconst (v := 1) hx hb dX2_fitsInto_31 (by decide) ?_
        refine lv_goto (tgt := 36) hx hb dX2_fitsInto_32 (by decide) ?_
        exact re_z hx hb hr hlocks hT hA hS hI (by decide) (by refine ⟨rfl, Or.inl ⟨?_, rfl⟩⟩; grind) (Nat.le_of_ble_eq_true rfl) (Nat.le_of_ble_eq_true rfl) dX2_fitsInto_36
      · refine lv_iload_n hx hb dX2_fitsInto_18 rfl (lv_at hl 1 rfl) ?_
        refine lv_iconst (v := 5) hx hb dX2_fitsInto_19 (by decide) ?_
        refine lv_icmp_ne (tgt := 35) hx hb dX2_fitsInto_20 (by decide) (fun c_6 => ?_) (fun c_6 => ?_)
        · refine lv_iconst (v := 0) hx hb dX2_fitsInto_35 (by decide) ?_
          exact re_z hx hb hr hlocks hT hA hS hI (by decide) (by refine ⟨rfl, Or.inr ⟨?_, rfl⟩⟩; grind) (Nat.le_of_ble_eq_true rfl) (Nat.le_of_ble_eq_true rfl) dX2_fitsInto_36
        · refine lv_aload_n hx hb dX2_fitsInto_23 rfl (lv_at hl 0 rfl) ?_
          refine wr_get (ci := 1) (C := RX2) (T := TX2) (N := 2) (v := .int cv) hx hb hts in_X2 hown hT hI hc rfl 0 (by decide) (hts (.fieldLink RX2 9 "CopyRows$Thing" "cls" "I") (by decide +kernel)) rfl dX2_fitsInto_24 ?_
          refine lv_iconst (v := 2) hx hb dX2_fitsInto_27 (by decide) ?_
          refine lv_icmp_ne (tgt := 35) hx hb dX2_fitsInto_28 (by decide) (fun c_7 => ?_) (fun c_7 => ?_)
          · refine lv_iconst (v := 0) hx hb dX2_fitsInto_35 (by decide) ?_
            exact re_z hx hb hr hlocks hT hA hS hI (by decide) (by refine ⟨rfl, Or.inr ⟨?_, rfl⟩⟩; grind) (Nat.le_of_ble_eq_true rfl) (Nat.le_of_ble_eq_true rfl) dX2_fitsInto_36
          · refine lv_iconst (v := 1) hx hb dX2_fitsInto_31 (by decide) ?_
            refine lv_goto (tgt := 36) hx hb dX2_fitsInto_32 (by decide) ?_
            exact re_z hx hb hr hlocks hT hA hS hI (by decide) (by refine ⟨rfl, Or.inl ⟨?_, rfl⟩⟩; grind) (Nat.le_of_ble_eq_true rfl) (Nat.le_of_ble_eq_true rfl) dX2_fitsInto_36

set_option maxHeartbeats 4000000 in
set_option maxRecDepth 100000 in
theorem cc_X2_shown (l : Launch) (E : En) (A : Nat → Prop) (w : Wd) {h0 : Nat} {cv nv : Int32} (hc : w h0 = some (eTh cv nv)) : Ct l yX2_shown wsX2_shown ({ frames := 0, cells := 0, slots := 0, locals := 0 } : Room) E A w [.ref h0] (fun r w' => w = w' ∧ r = some (.int nv)) 0 0 := by
  refine Met.ofW (cc := cX2_shown) (maxL := 1) (ret := (some .int)) (by decide) rfl ?_
  intro pp0 ee0 s m args below meth cc0 s₁ B hml hv
  obtain ⟨rfl, hT, hI, hA⟩ := hv
  have hx := B.exec
  have hb := B.bytes
  have hr := B.returns
  have hts := atoms_spec (ws := wsX2_shown) B.pre
  have hown : s.vm.findClass RX2 = some m.cls := findClass_of_methodNamed B.named
  have hlocks := B.notSynchronized
  have in_X2 : ∀ w ∈ wsX20, w ∈ wsX2_shown := by decide +kernel
  have hS : va_S A s.heap s.heap [] := va_S.rf
  have hl := lv_entry ([.ref h0]) (n := 1) (Nat.le_of_ble_eq_true rfl)
  rw [lg_entry_eq]
  generalize (lg_sl ([.ref h0]) ++ List.replicate (1 - (lg_sl ([.ref h0])).length) Slot.unset).toArray = ls at hl ⊢
  have hl : lv_has ls 1 [(0, .ref h0)] := hl
  refine lv_aload_n hx hb dX2_shown_0 rfl (lv_at hl 0 rfl) ?_
  refine wr_get (ci := 1) (C := RX2) (T := TX2) (N := 2) (v := .int nv) hx hb hts in_X2 hown hT hI hc rfl 1 (by decide) (hts (.fieldLink RX2 15 "CopyRows$Thing" "number" "I") (by decide +kernel)) rfl dX2_shown_1 ?_
  exact re_i hx hb hr hlocks hT hA hS hI (⟨rfl, rfl⟩) (Nat.le_of_ble_eq_true rfl) (Nat.le_of_ble_eq_true rfl) dX2_shown_4

set_option maxHeartbeats 4000000 in
set_option maxRecDepth 100000 in
theorem cc_X1_takes_N (l : Launch) (E : En) (A : Nat → Prop) (w : Wd) {h0 na qa : Nat} {kd ln : Int32} (hc : w h0 = some (eRow kd ln na qa)) : Ct l yX1_takes wsX1_takes ({ frames := 1, cells := 0, slots := 0, locals := 21 } : Room) E A w [.ref h0, .null] (fun r w' => w = w' ∧ r = some (.int 1)) 0 0 := by
  refine Met.ofW (cc := cX1_takes) (maxL := 2) (ret := (some .boolean)) (by decide) rfl ?_
  intro pp0 ee0 s m args below meth cc0 s₁ B hml hv
  obtain ⟨rfl, hT, hI, hA⟩ := hv
  have hx := B.exec
  have hb := B.bytes
  have hr := B.returns
  have hts := atoms_spec (ws := wsX1_takes) B.pre
  have hown : s.vm.findClass RX1 = some m.cls := findClass_of_methodNamed B.named
  have hlocks := B.notSynchronized
  have hS : va_S A s.heap s.heap [] := va_S.rf
  have hl := lv_entry ([.ref h0, .null]) (n := 2) (Nat.le_of_ble_eq_true rfl)
  rw [lg_entry_eq]
  generalize (lg_sl ([.ref h0, .null]) ++ List.replicate (2 - (lg_sl ([.ref h0, .null])).length) Slot.unset).toArray = ls at hl ⊢
  have hl : lv_has ls 2 [(0, .ref h0), (1, .null)] := hl
  refine lv_aload_nN hx hb dX1_takes_0 rfl (lv_at hl 1 rfl) ?_
  refine lv_ifnullN (tgt := 15) hx hb dX1_takes_1 (by decide) ?_
  refine lv_iconst (v := 1) hx hb dX1_takes_15 (by decide) ?_
  refine lv_goto (tgt := 20) hx hb dX1_takes_16 (by decide) ?_
  exact re_z hx hb hr hlocks hT hA hS hI (by decide) (⟨rfl, rfl⟩) (Nat.le_of_ble_eq_true rfl) (Nat.le_of_ble_eq_true rfl) dX1_takes_20

set_option maxHeartbeats 4000000 in
set_option maxRecDepth 100000 in
theorem cc_X1_takes_R (l : Launch) (E : En) (A : Nat → Prop) (w : Wd) {h0 na qa : Nat} {kd ln : Int32} {b xb yb : Nat} {kb lb : Int32} (hc : w h0 = some (eRow kd ln na qa)) (hbc : w b = some (eRow kb lb xb yb)) : Ct l yX1_takes wsX1_takes ({ frames := 1, cells := 0, slots := 0, locals := 21 } : Room) E A w [.ref h0, .ref b] (fun r w' => w = w' ∧ (((kd = 2) ∧ r = some (.int 1)) ∨ (¬ (kd = 2) ∧ r = some (.int 0)))) 0 0 := by
  refine Met.ofW (cc := cX1_takes) (maxL := 2) (ret := (some .boolean)) (by decide) rfl ?_
  intro pp0 ee0 s m args below meth cc0 s₁ B hml hv
  obtain ⟨rfl, hT, hI, hA⟩ := hv
  have hx := B.exec
  have hb := B.bytes
  have hr := B.returns
  have hts := atoms_spec (ws := wsX1_takes) B.pre
  have hown : s.vm.findClass RX1 = some m.cls := findClass_of_methodNamed B.named
  have hlocks := B.notSynchronized
  have in_X1 : ∀ w ∈ wsX10, w ∈ wsX1_takes := by decide +kernel
  have hS : va_S A s.heap s.heap [] := va_S.rf
  have hl := lv_entry ([.ref h0, .ref b]) (n := 2) (Nat.le_of_ble_eq_true rfl)
  rw [lg_entry_eq]
  generalize (lg_sl ([.ref h0, .ref b]) ++ List.replicate (2 - (lg_sl ([.ref h0, .ref b])).length) Slot.unset).toArray = ls at hl ⊢
  have hl : lv_has ls 2 [(0, .ref h0), (1, .ref b)] := hl
  refine lv_aload_n hx hb dX1_takes_0 rfl (lv_at hl 1 rfl) ?_
  refine lv_ifnull hx hb dX1_takes_1 ?_
  refine lv_aload_n hx hb dX1_takes_4 rfl (lv_at hl 1 rfl) ?_
  refine lv_aload_n hx hb dX1_takes_5 rfl (lv_at hl 0 rfl) ?_
  refine wr_get (ci := 0) (C := RX1) (T := TX1) (N := 4) (v := .int kd) hx hb hts in_X1 hown hT hI hc rfl 0 (by decide) (hts (.fieldLink RX1 9 "CopyRows$Row" "kind" "I") (by decide +kernel)) rfl dX1_takes_6 ?_
  refine ca_U (As := [.int kd]) (rest := []) (r0 := (RX1, TX1, 4)) (ci := 0) ⟨hx, hb, hml, hown, hts⟩ (cc_X1_fitsInto l E A _ kd) (va_cwA 1 hts gX1_takes_X1_fitsInto_u26X1 rfl rfl rfl hT.2.2.2.2.2.1 (by decide +kernel) ⟨(Nat.le_of_ble_eq_true rfl), (Nat.le_of_ble_eq_true rfl)⟩) hT hI hA hS rfl hbc rfl rfl hl.1 (Nat.le_of_ble_eq_true rfl) dX1_takes_9 ⟨(Nat.le_of_ble_eq_true rfl), (Nat.le_of_ble_eq_true rfl)⟩ (fun r w_2 H locs hp_1 hI hS => ?_)
  obtain ⟨rfl, ⟨hb_3, rfl⟩ | ⟨hb_3, rfl⟩⟩ := hp_1
  · refine W.eq (g2 := F0 m 12 ls [.int 1]) rfl ?_
    refine lv_if_eq (tgt := 19) hx hb dX1_takes_12 (by decide) (fun c => absurd c (by decide)) (fun _ => ?_)
    refine lv_iconst (v := 1) hx hb dX1_takes_15 (by decide) ?_
    refine lv_goto (tgt := 20) hx hb dX1_takes_16 (by decide) ?_
    exact re_z hx hb hr hlocks hT hA hS hI (by decide) (by refine ⟨rfl, Or.inl ⟨?_, rfl⟩⟩; grind) (Nat.le_of_ble_eq_true rfl) (Nat.le_of_ble_eq_true rfl) dX1_takes_20
  · refine W.eq (g2 := F0 m 12 ls [.int 0]) rfl ?_
    refine lv_if_eq (tgt := 19) hx hb dX1_takes_12 (by decide) (fun _ => ?_) (fun c => absurd c (by decide))
    refine lv_iconst (v := 0) hx hb dX1_takes_19 (by decide) ?_
    exact re_z hx hb hr hlocks hT hA hS hI (by decide) (by refine ⟨rfl, Or.inr ⟨?_, rfl⟩⟩; grind) (Nat.le_of_ble_eq_true rfl) (Nat.le_of_ble_eq_true rfl) dX1_takes_20

set_option maxHeartbeats 4000000 in
set_option maxRecDepth 100000 in
theorem cc_X1_takes_T (l : Launch) (E : En) (A : Nat → Prop) (w : Wd) {h0 na qa : Nat} {kd ln : Int32} {b : Nat} {cb nb : Int32} (hc : w h0 = some (eRow kd ln na qa)) (hbc : w b = some (eTh cb nb)) : Ct l yX1_takes wsX1_takes ({ frames := 1, cells := 0, slots := 0, locals := 21 } : Room) E A w [.ref h0, .ref b] (fun r w' => w = w' ∧ (((fT kd cb) ∧ r = some (.int 1)) ∨ (¬ (fT kd cb) ∧ r = some (.int 0)))) 0 0 := by
  refine Met.ofW (cc := cX1_takes) (maxL := 2) (ret := (some .boolean)) (by decide) rfl ?_
  intro pp0 ee0 s m args below meth cc0 s₁ B hml hv
  obtain ⟨rfl, hT, hI, hA⟩ := hv
  have hx := B.exec
  have hb := B.bytes
  have hr := B.returns
  have hts := atoms_spec (ws := wsX1_takes) B.pre
  have hown : s.vm.findClass RX1 = some m.cls := findClass_of_methodNamed B.named
  have hlocks := B.notSynchronized
  have in_X1 : ∀ w ∈ wsX10, w ∈ wsX1_takes := by decide +kernel
  have hS : va_S A s.heap s.heap [] := va_S.rf
  have hl := lv_entry ([.ref h0, .ref b]) (n := 2) (Nat.le_of_ble_eq_true rfl)
  rw [lg_entry_eq]
  generalize (lg_sl ([.ref h0, .ref b]) ++ List.replicate (2 - (lg_sl ([.ref h0, .ref b])).length) Slot.unset).toArray = ls at hl ⊢
  have hl : lv_has ls 2 [(0, .ref h0), (1, .ref b)] := hl
  refine lv_aload_n hx hb dX1_takes_0 rfl (lv_at hl 1 rfl) ?_
  refine lv_ifnull hx hb dX1_takes_1 ?_
  refine lv_aload_n hx hb dX1_takes_4 rfl (lv_at hl 1 rfl) ?_
  refine lv_aload_n hx hb dX1_takes_5 rfl (lv_at hl 0 rfl) ?_
  refine wr_get (ci := 0) (C := RX1) (T := TX1) (N := 4) (v := .int kd) hx hb hts in_X1 hown hT hI hc rfl 0 (by decide) (hts (.fieldLink RX1 9 "CopyRows$Row" "kind" "I") (by decide +kernel)) rfl dX1_takes_6 ?_
  refine ca_U (As := [.int kd]) (rest := []) (r0 := (RX2, TX2, 2)) (ci := 1) ⟨hx, hb, hml, hown, hts⟩ (cc_X2_fitsInto l E A _ kd hbc) (va_cwA 1 hts gX1_takes_X2_fitsInto_u26X2 rfl rfl rfl hT.2.2.2.2.2.1 (by decide +kernel) ⟨(Nat.le_of_ble_eq_true rfl), (Nat.le_of_ble_eq_true rfl)⟩) hT hI hA hS rfl hbc rfl rfl hl.1 (Nat.le_of_ble_eq_true rfl) dX1_takes_9 ⟨(Nat.le_of_ble_eq_true rfl), (Nat.le_of_ble_eq_true rfl)⟩ (fun r w_2 H locs hp_1 hI hS => ?_)
  obtain ⟨rfl, ⟨hb_3, rfl⟩ | ⟨hb_3, rfl⟩⟩ := hp_1
  · refine W.eq (g2 := F0 m 12 ls [.int 1]) rfl ?_
    refine lv_if_eq (tgt := 19) hx hb dX1_takes_12 (by decide) (fun c => absurd c (by decide)) (fun _ => ?_)
    refine lv_iconst (v := 1) hx hb dX1_takes_15 (by decide) ?_
    refine lv_goto (tgt := 20) hx hb dX1_takes_16 (by decide) ?_
    exact re_z hx hb hr hlocks hT hA hS hI (by decide) (by refine ⟨rfl, Or.inl ⟨?_, rfl⟩⟩; grind) (Nat.le_of_ble_eq_true rfl) (Nat.le_of_ble_eq_true rfl) dX1_takes_20
  · refine W.eq (g2 := F0 m 12 ls [.int 0]) rfl ?_
    refine lv_if_eq (tgt := 19) hx hb dX1_takes_12 (by decide) (fun _ => ?_) (fun c => absurd c (by decide))
    refine lv_iconst (v := 0) hx hb dX1_takes_19 (by decide) ?_
    exact re_z hx hb hr hlocks hT hA hS hI (by decide) (by refine ⟨rfl, Or.inr ⟨?_, rfl⟩⟩; grind) (Nat.le_of_ble_eq_true rfl) (Nat.le_of_ble_eq_true rfl) dX1_takes_20

theorem cc_X1_takes (l : Launch) (E : En) (A : Nat → Prop) (w : Wd) {h0 na qa : Nat} {kd ln : Int32} (o : Option Nat) (ho : okW w o) (hc : w h0 = some (eRow kd ln na qa)) : Ct l yX1_takes wsX1_takes ({ frames := 1, cells := 0, slots := 0, locals := 21 } : Room) E A w [.ref h0, va_rf o] (fun r w' => w = w' ∧ (((fitW w kd o) ∧ r = some (.int 1)) ∨ (¬ (fitW w kd o) ∧ r = some (.int 0)))) 0 0 := by
  cases o with
  | none =>
    refine Ct.mono (cc_X1_takes_N l E A w hc) (fun r w' h => ⟨h.1, Or.inl ⟨fitW_none, h.2⟩⟩)
  | some b =>
    rcases ho b rfl with ⟨c, n, h⟩ | ⟨k, l1, x, y, h⟩
    · refine Ct.mono (cc_X1_takes_T l E A w hc h) (fun r w' q => ⟨q.1, ?_⟩)
      rw [fitW_th h]; exact q.2
    · refine Ct.mono (cc_X1_takes_R l E A w hc h) (fun r w' q => ⟨q.1, ?_⟩)
      rw [fitW_row h]; exact q.2

set_option maxHeartbeats 4000000 in
set_option maxRecDepth 100000 in
theorem cc_X1_mayTakeOf (l : Launch) (E : En) (A : Nat → Prop) (w : Wd) {h0 na qa : Nat} {kd ln : Int32} {h1 na1 qa1 : Nat} {kf lf : Int32} (hc : w h0 = some (eRow kd ln na qa)) (hc1 : w h1 = some (eRow kf lf na1 qa1)) : Ct l yX1_mayTakeOf wsX1_mayTakeOf ({ frames := 1, cells := 0, slots := 0, locals := 20 } : Room) E A w [.ref h0, .ref h1] (fun r w' => w = w' ∧ (((¬ (kd = 6 ∨ kf = 6) ∧ (kd = kf ∨ ¬ isN kd ∧ ¬ isN kf)) ∧ r = some (.int 1)) ∨ (¬ (¬ (kd = 6 ∨ kf = 6) ∧ (kd = kf ∨ ¬ isN kd ∧ ¬ isN kf)) ∧ r = some (.int 0)))) 0 0 := by
  refine Met.ofW (cc := cX1_mayTakeOf) (maxL := 2) (ret := (some .boolean)) (by decide) rfl ?_
  intro pp0 ee0 s m args below meth cc0 s₁ B hml hv
  obtain ⟨rfl, hT, hI, hA⟩ := hv
  have hx := B.exec
  have hb := B.bytes
  have hr := B.returns
  have hts := atoms_spec (ws := wsX1_mayTakeOf) B.pre
  have hown : s.vm.findClass RX1 = some m.cls := findClass_of_methodNamed B.named
  have hlocks := B.notSynchronized
  have in_X1 : ∀ w ∈ wsX10, w ∈ wsX1_mayTakeOf := by decide +kernel
  have hS : va_S A s.heap s.heap [] := va_S.rf
  have hl := lv_entry ([.ref h0, .ref h1]) (n := 2) (Nat.le_of_ble_eq_true rfl)
  rw [lg_entry_eq]
  generalize (lg_sl ([.ref h0, .ref h1]) ++ List.replicate (2 - (lg_sl ([.ref h0, .ref h1])).length) Slot.unset).toArray = ls at hl ⊢
  have hl : lv_has ls 2 [(0, .ref h0), (1, .ref h1)] := hl
  refine lv_aload_n hx hb dX1_mayTakeOf_0 rfl (lv_at hl 0 rfl) ?_
  refine wr_get (ci := 0) (C := RX1) (T := TX1) (N := 4) (v := .int kd) hx hb hts in_X1 hown hT hI hc rfl 0 (by decide) (hts (.fieldLink RX1 9 "CopyRows$Row" "kind" "I") (by decide +kernel)) rfl dX1_mayTakeOf_1 ?_
  refine lv_bipush (v := 6) hx hb dX1_mayTakeOf_4 (by decide) ?_
  refine lv_icmp_eq (tgt := 18) hx hb dX1_mayTakeOf_6 (by decide) (fun c_1 => ?_) (fun c_1 => ?_)
  · refine lv_iconst (v := 0) hx hb dX1_mayTakeOf_18 (by decide) ?_
    exact re_z hx hb hr hlocks hT hA hS hI (by decide) (by refine ⟨rfl, Or.inr ⟨?_, rfl⟩⟩; grind) (Nat.le_of_ble_eq_true rfl) (Nat.le_of_ble_eq_true rfl) dX1_mayTakeOf_19
  · refine lv_aload_n hx hb dX1_mayTakeOf_9 rfl (lv_at hl 1 rfl) ?_
    refine wr_get (ci := 0) (C := RX1) (T := TX1) (N := 4) (v := .int kf) hx hb hts in_X1 hown hT hI hc1 rfl 0 (by decide) (hts (.fieldLink RX1 9 "CopyRows$Row" "kind" "I") (by decide +kernel)) rfl dX1_mayTakeOf_10 ?_
    refine lv_bipush (v := 6) hx hb dX1_mayTakeOf_13 (by decide) ?_
    refine lv_icmp_ne (tgt := 20) hx hb dX1_mayTakeOf_15 (by decide) (fun c_2 => ?_) (fun c_2 => ?_)
    · refine lv_aload_n hx hb dX1_mayTakeOf_20 rfl (lv_at hl 0 rfl) ?_
      refine wr_get (ci := 0) (C := RX1) (T := TX1) (N := 4) (v := .int kd) hx hb hts in_X1 hown hT hI hc rfl 0 (by decide) (hts (.fieldLink RX1 9 "CopyRows$Row" "kind" "I") (by decide +kernel)) rfl dX1_mayTakeOf_21 ?_
      refine lv_aload_n hx hb dX1_mayTakeOf_24 rfl (lv_at hl 1 rfl) ?_
      refine wr_get (ci := 0) (C := RX1) (T := TX1) (N := 4) (v := .int kf) hx hb hts in_X1 hown hT hI hc1 rfl 0 (by decide) (hts (.fieldLink RX1 9 "CopyRows$Row" "kind" "I") (by decide +kernel)) rfl dX1_mayTakeOf_25 ?_
      refine lv_icmp_eq (tgt := 45) hx hb dX1_mayTakeOf_28 (by decide) (fun c_3 => ?_) (fun c_3 => ?_)
      · refine lv_iconst (v := 1) hx hb dX1_mayTakeOf_45 (by decide) ?_
        refine lv_goto (tgt := 50) hx hb dX1_mayTakeOf_46 (by decide) ?_
        exact re_z hx hb hr hlocks hT hA hS hI (by decide) (by refine ⟨rfl, Or.inl ⟨?_, rfl⟩⟩; grind) (Nat.le_of_ble_eq_true rfl) (Nat.le_of_ble_eq_true rfl) dX1_mayTakeOf_50
      · refine lv_aload_n hx hb dX1_mayTakeOf_31 rfl (lv_at hl 0 rfl) ?_
        refine ca_V (As := []) (rest := []) (r0 := (RX1, TX1, 4)) (ci := 0) ⟨hx, hb, hml, hown, hts⟩ (cc_X1_isOfNumbers l E A _ hc) (cwV 0 hts gX1_mayTakeOf_X1_isOfNumbers rfl rfl rfl (by decide +kernel) ⟨(Nat.le_of_ble_eq_true rfl), (Nat.le_of_ble_eq_true rfl)⟩) hT hI hA hS rfl hc rfl rfl hl.1 (Nat.le_of_ble_eq_true rfl) dX1_mayTakeOf_32 ⟨(Nat.le_of_ble_eq_true rfl), (Nat.le_of_ble_eq_true rfl)⟩ (fun r w_5 H locs hp_4 hI hS => ?_)
        obtain ⟨rfl, ⟨hb_6, rfl⟩ | ⟨hb_6, rfl⟩⟩ := hp_4
        · refine W.eq (g2 := F0 m 35 ls [.int 1]) rfl ?_
          refine lv_if_ne (tgt := 49) hx hb dX1_mayTakeOf_35 (by decide) (fun _ => ?_) (fun c => absurd c (by decide))
          refine lv_iconst (v := 0) hx hb dX1_mayTakeOf_49 (by decide) ?_
          exact re_z hx hb hr hlocks hT hA hS hI (by decide) (by refine ⟨rfl, Or.inr ⟨?_, rfl⟩⟩; grind) (Nat.le_of_ble_eq_true rfl) (Nat.le_of_ble_eq_true rfl) dX1_mayTakeOf_50
        · refine W.eq (g2 := F0 m 35 ls [.int 0]) rfl ?_
          refine lv_if_ne (tgt := 49) hx hb dX1_mayTakeOf_35 (by decide) (fun c => absurd c (by decide)) (fun _ => ?_)
          refine lv_aload_n hx hb dX1_mayTakeOf_38 rfl (lv_at hl 1 rfl) ?_
          refine ca_V (As := []) (rest := []) (r0 := (RX1, TX1, 4)) (ci := 0) ⟨hx, hb, hml, hown, hts⟩ (cc_X1_isOfNumbers l E A _ hc1) (cwV 0 hts gX1_mayTakeOf_X1_isOfNumbers rfl rfl rfl (by decide +kernel) ⟨(Nat.le_of_ble_eq_true rfl), (Nat.le_of_ble_eq_true rfl)⟩) hT hI hA hS rfl hc1 rfl rfl hl.1 (Nat.le_of_ble_eq_true rfl) dX1_mayTakeOf_39 ⟨(Nat.le_of_ble_eq_true rfl), (Nat.le_of_ble_eq_true rfl)⟩ (fun r w_8 H locs hp_7 hI hS => ?_)
          obtain ⟨rfl, ⟨hb_9, rfl⟩ | ⟨hb_9, rfl⟩⟩ := hp_7
          · refine W.eq (g2 := F0 m 42 ls [.int 1]) rfl ?_
            refine lv_if_ne (tgt := 49) hx hb dX1_mayTakeOf_42 (by decide) (fun _ => ?_) (fun c => absurd c (by decide))
            refine lv_iconst (v := 0) hx hb dX1_mayTakeOf_49 (by decide) ?_
            exact re_z hx hb hr hlocks hT hA hS hI (by decide) (by refine ⟨rfl, Or.inr ⟨?_, rfl⟩⟩; grind) (Nat.le_of_ble_eq_true rfl) (Nat.le_of_ble_eq_true rfl) dX1_mayTakeOf_50
          · refine W.eq (g2 := F0 m 42 ls [.int 0]) rfl ?_
            refine lv_if_ne (tgt := 49) hx hb dX1_mayTakeOf_42 (by decide) (fun c => absurd c (by decide)) (fun _ => ?_)
            refine lv_iconst (v := 1) hx hb dX1_mayTakeOf_45 (by decide) ?_
            refine lv_goto (tgt := 50) hx hb dX1_mayTakeOf_46 (by decide) ?_
            exact re_z hx hb hr hlocks hT hA hS hI (by decide) (by refine ⟨rfl, Or.inl ⟨?_, rfl⟩⟩; grind) (Nat.le_of_ble_eq_true rfl) (Nat.le_of_ble_eq_true rfl) dX1_mayTakeOf_50
    · refine lv_iconst (v := 0) hx hb dX1_mayTakeOf_18 (by decide) ?_
      exact re_z hx hb hr hlocks hT hA hS hI (by decide) (by refine ⟨rfl, Or.inr ⟨?_, rfl⟩⟩; grind) (Nat.le_of_ble_eq_true rfl) (Nat.le_of_ble_eq_true rfl) dX1_mayTakeOf_19
