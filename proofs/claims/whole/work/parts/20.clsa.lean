set_option maxHeartbeats 4000000 in
set_option maxRecDepth 100000 in
theorem cc_X3_isOutside (l : Launch) (E : En) (A : Nat → Prop) (w : Wd) (p9 : Int32) : Ct l yX3_isOutside wsX3_isOutside ({ frames := 0, cells := 0, slots := 0, locals := 0 } : Room) E A w [.int p9] (fun r w' => w = w' ∧ (((oP p9) ∧ r = some (.int 1)) ∨ (¬ (oP p9) ∧ r = some (.int 0)))) 0 0 := by
  refine Met.ofW (cc := cX3_isOutside) (maxL := 1) (ret := (some .boolean)) (by decide) rfl ?_
  intro pp0 ee0 s m args below meth cc0 s₁ B hml hv
  obtain ⟨rfl, hT, hI, hA⟩ := hv
  have hx := B.exec
  have hb := B.bytes
  have hr := B.returns
  have hts := atoms_spec (ws := wsX3_isOutside) B.pre
  have hown : s.vm.findClass RX3 = some m.cls := findClass_of_methodNamed B.named
  have hlocks := B.notSynchronized
  have hS : va_S A s.heap s.heap [] := va_S.rf
  have hl := lv_entry ([.int p9]) (n := 1) (Nat.le_of_ble_eq_true rfl)
  rw [lg_entry_eq]
  generalize (lg_sl ([.int p9]) ++ List.replicate (1 - (lg_sl ([.int p9])).length) Slot.unset).toArray = ls at hl ⊢
  have hl : lv_has ls 1 [(0, .int p9)] := hl
  refine lv_iload_n hx hb dX3_isOutside_0 rfl (lv_at hl 0 rfl) ?_
  refine lv_if_lt (tgt := 10) hx hb dX3_isOutside_1 (by decide) (fun c_1 => ?_) (fun c_1 => ?_)
  · refine lv_iconst (v := 1) hx hb dX3_isOutside_10 (by decide) ?_
    refine lv_goto (tgt := 15) hx hb dX3_isOutside_11 (by decide) ?_
    exact re_z hx hb hr hlocks hT hA hS hI (by decide) (by refine ⟨rfl, Or.inl ⟨?_, rfl⟩⟩; grind) (Nat.le_of_ble_eq_true rfl) (Nat.le_of_ble_eq_true rfl) dX3_isOutside_15
  · refine lv_iload_n hx hb dX3_isOutside_4 rfl (lv_at hl 0 rfl) ?_
    refine lv_bipush (v := 12) hx hb dX3_isOutside_5 (by decide) ?_
    refine lv_icmp_lt (tgt := 14) hx hb dX3_isOutside_7 (by decide) (fun c_2 => ?_) (fun c_2 => ?_)
    · refine lv_iconst (v := 0) hx hb dX3_isOutside_14 (by decide) ?_
      exact re_z hx hb hr hlocks hT hA hS hI (by decide) (by refine ⟨rfl, Or.inr ⟨?_, rfl⟩⟩; grind) (Nat.le_of_ble_eq_true rfl) (Nat.le_of_ble_eq_true rfl) dX3_isOutside_15
    · refine lv_iconst (v := 1) hx hb dX3_isOutside_10 (by decide) ?_
      refine lv_goto (tgt := 15) hx hb dX3_isOutside_11 (by decide) ?_
      exact re_z hx hb hr hlocks hT hA hS hI (by decide) (by refine ⟨rfl, Or.inl ⟨?_, rfl⟩⟩; grind) (Nat.le_of_ble_eq_true rfl) (Nat.le_of_ble_eq_true rfl) dX3_isOutside_15

set_option maxHeartbeats 4000000 in
set_option maxRecDepth 100000 in
theorem cc_X3_kindOf_N (l : Launch) (E : En) (A : Nat → Prop) (w : Wd)  : Ct l yX3_kindOf wsX3_kindOf ({ frames := 0, cells := 0, slots := 0, locals := 0 } : Room) E A w [.null] (fun r w' => w = w' ∧ r = some (.int (-1))) 0 0 := by
  refine Met.ofW (cc := cX3_kindOf) (maxL := 1) (ret := (some .int)) (by decide) rfl ?_
  intro pp0 ee0 s m args below meth cc0 s₁ B hml hv
  obtain ⟨rfl, hT, hI, hA⟩ := hv
  have hx := B.exec
  have hb := B.bytes
  have hr := B.returns
  have hts := atoms_spec (ws := wsX3_kindOf) B.pre
  have hown : s.vm.findClass RX3 = some m.cls := findClass_of_methodNamed B.named
  have hlocks := B.notSynchronized
  have hS : va_S A s.heap s.heap [] := va_S.rf
  have hl := lv_entry ([.null]) (n := 1) (Nat.le_of_ble_eq_true rfl)
  rw [lg_entry_eq]
  generalize (lg_sl ([.null]) ++ List.replicate (1 - (lg_sl ([.null])).length) Slot.unset).toArray = ls at hl ⊢
  have hl : lv_has ls 1 [(0, .null)] := hl
  refine lv_aload_nN hx hb dX3_kindOf_0 rfl (lv_at hl 0 rfl) ?_
  refine lv_ifnonnullN hx hb dX3_kindOf_1 ?_
  refine lv_iconst (v := -1) hx hb dX3_kindOf_4 (by decide) ?_
  refine lv_goto (tgt := 12) hx hb dX3_kindOf_5 (by decide) ?_
  exact re_i hx hb hr hlocks hT hA hS hI (⟨rfl, rfl⟩) (Nat.le_of_ble_eq_true rfl) (Nat.le_of_ble_eq_true rfl) dX3_kindOf_12

set_option maxHeartbeats 4000000 in
set_option maxRecDepth 100000 in
theorem cc_X3_kindOf_R (l : Launch) (E : En) (A : Nat → Prop) (w : Wd) {h0 na qa : Nat} {kd ln : Int32} (hc : w h0 = some (eRow kd ln na qa)) : Ct l yX3_kindOf wsX3_kindOf ({ frames := 0, cells := 0, slots := 0, locals := 0 } : Room) E A w [.ref h0] (fun r w' => w = w' ∧ r = some (.int kd)) 0 0 := by
  refine Met.ofW (cc := cX3_kindOf) (maxL := 1) (ret := (some .int)) (by decide) rfl ?_
  intro pp0 ee0 s m args below meth cc0 s₁ B hml hv
  obtain ⟨rfl, hT, hI, hA⟩ := hv
  have hx := B.exec
  have hb := B.bytes
  have hr := B.returns
  have hts := atoms_spec (ws := wsX3_kindOf) B.pre
  have hown : s.vm.findClass RX3 = some m.cls := findClass_of_methodNamed B.named
  have hlocks := B.notSynchronized
  have in_X1 : ∀ w ∈ wsX10, w ∈ wsX3_kindOf := by decide +kernel
  have hS : va_S A s.heap s.heap [] := va_S.rf
  have hl := lv_entry ([.ref h0]) (n := 1) (Nat.le_of_ble_eq_true rfl)
  rw [lg_entry_eq]
  generalize (lg_sl ([.ref h0]) ++ List.replicate (1 - (lg_sl ([.ref h0])).length) Slot.unset).toArray = ls at hl ⊢
  have hl : lv_has ls 1 [(0, .ref h0)] := hl
  refine lv_aload_n hx hb dX3_kindOf_0 rfl (lv_at hl 0 rfl) ?_
  refine lv_ifnonnull (tgt := 8) hx hb dX3_kindOf_1 (by decide) ?_
  refine lv_aload_n hx hb dX3_kindOf_8 rfl (lv_at hl 0 rfl) ?_
  refine wr_get (ci := 0) (C := RX1) (T := TX1) (N := 4) (v := .int kd) hx hb hts in_X1 hown hT hI hc rfl 0 (by decide) (hts (.fieldLink RX3 53 "CopyRows$Row" "kind" "I") (by decide +kernel)) rfl dX3_kindOf_9 ?_
  exact re_i hx hb hr hlocks hT hA hS hI (⟨rfl, rfl⟩) (Nat.le_of_ble_eq_true rfl) (Nat.le_of_ble_eq_true rfl) dX3_kindOf_12

set_option maxHeartbeats 4000000 in
set_option maxRecDepth 100000 in
theorem cc_X3_fail (l : Launch) (E : En) (A : Nat → Prop) (w : Wd) {S : Sx} {D : Ad} (x : Int32) (hR : Rp E S D w) : Ct l yX3_fail wsX3_fail ({ frames := 0, cells := 0, slots := 0, locals := 0 } : Room) E A w [.ref (aH D), .int x] (fun r w' => r = some (.int 0) ∧ Rp E (uCod S x) D w') 0 0 := by
  refine Met.ofW (cc := cX3_fail) (maxL := 2) (ret := (some .int)) (by decide) rfl ?_
  intro pp0 ee0 s m args below meth cc0 s₁ B hml hv
  obtain ⟨rfl, hT, hI, hA⟩ := hv
  have hx := B.exec
  have hb := B.bytes
  have hr := B.returns
  have hts := atoms_spec (ws := wsX3_fail) B.pre
  have hown : s.vm.findClass RX3 = some m.cls := findClass_of_methodNamed B.named
  have hlocks := B.notSynchronized
  have in_X3 : ∀ w ∈ wsX30, w ∈ wsX3_fail := by decide +kernel
  have hS : va_S A s.heap s.heap [] := va_S.rf
  have hl := lv_entry ([.ref (aH D), .int x]) (n := 2) (Nat.le_of_ble_eq_true rfl)
  rw [lg_entry_eq]
  generalize (lg_sl ([.ref (aH D), .int x]) ++ List.replicate (2 - (lg_sl ([.ref (aH D), .int x])).length) Slot.unset).toArray = ls at hl ⊢
  have hl : lv_has ls 2 [(0, .ref (aH D)), (1, .int x)] := hl
  refine lv_aload_n hx hb dX3_fail_0 rfl (lv_at hl 0 rfl) ?_
  refine lv_iload_n hx hb dX3_fail_1 rfl (lv_at hl 1 rfl) ?_
  refine wr_put (ci := 2) (C := RX3) (T := TX3) (N := 2) (v := .int x) (ty := .int) hx hb hts in_X3 tyX3 tyX3_ok nmX3 hown hT hI hS hR.1 rfl 1 (by decide) (hts (.fieldLink RX3 15 "CopyRows" "code" "I") (by decide +kernel)) rfl (by decide +kernel) rfl rfl (Nat.le_of_ble_eq_true rfl) dX3_fail_2 (fun H locs hI hS => ?_)
  have hR := hR.cod (x)
  refine lv_iconst (v := 0) hx hb dX3_fail_5 (by decide) ?_
  exact re_i hx hb hr hlocks hT hA hS hI (⟨rfl, hR⟩) (Nat.le_of_ble_eq_true rfl) (Nat.le_of_ble_eq_true rfl) dX3_fail_6

set_option maxHeartbeats 4000000 in
set_option maxRecDepth 100000 in
theorem cc_X3_put (l : Launch) (E : En) (A : Nat → Prop) (w : Wd) {S : Sx} {D : Ad} {v : Int32} {j : Nat} (hj : j < 12) (hv : vO S v) (hv1 : ¬ v = -1) (hR : Rp E S D w) : Ct l yX3_put wsX3_put ({ frames := 0, cells := 0, slots := 0, locals := 0 } : Room) E A w [.ref (aH D), .int (nI j), .ref (aR D v)] (fun r w' => r = some (.int (nI (lnv S v))) ∧ Rp E (uCod (uPl S j v) 0) D w') 0 0 := by
  refine Met.ofW (cc := cX3_put) (maxL := 3) (ret := (some .int)) (by decide) rfl ?_
  intro pp0 ee0 s m args below meth cc0 s₁ B hml hv
  obtain ⟨rfl, hT, hI, hA⟩ := hv
  have hx := B.exec
  have hb := B.bytes
  have hr := B.returns
  have hts := atoms_spec (ws := wsX3_put) B.pre
  have hown : s.vm.findClass RX3 = some m.cls := findClass_of_methodNamed B.named
  have hlocks := B.notSynchronized
  have in_X1 : ∀ w ∈ wsX10, w ∈ wsX3_put := by decide +kernel
  have in_X3 : ∀ w ∈ wsX30, w ∈ wsX3_put := by decide +kernel
  have hS : va_S A s.heap s.heap [] := va_S.rf
  have hl := lv_entry ([.ref (aH D), .int (nI j), .ref (aR D v)]) (n := 3) (Nat.le_of_ble_eq_true rfl)
  rw [lg_entry_eq]
  generalize (lg_sl ([.ref (aH D), .int (nI j), .ref (aR D v)]) ++ List.replicate (3 - (lg_sl ([.ref (aH D), .int (nI j), .ref (aR D v)])).length) Slot.unset).toArray = ls at hl ⊢
  have hl : lv_has ls 3 [(0, .ref (aH D)), (1, .int (nI j)), (2, .ref (aR D v))] := hl
  have hpl : plO D v = some (aR D v) := if_neg hv1
  refine lv_aload_n hx hb dX3_put_0 rfl (lv_at hl 0 rfl) ?_
  refine wr_get (ci := 2) (C := RX3) (T := TX3) (N := 2) (v := .ref (aP D)) hx hb hts in_X3 hown hT hI hR.1 rfl 0 (by decide) (hts (.fieldLink RX3 11 "CopyRows" "places" "[LCopyRows$Row;") (by decide +kernel)) rfl dX3_put_1 ?_
  refine lv_iload_n hx hb dX3_put_4 rfl (lv_at hl 1 rfl) ?_
  refine lv_aload_n hx hb dX3_put_5 rfl (lv_at hl 2 rfl) ?_
  refine W.eq (g2 := F0 m 6 ls (va_rf (some (aR D v)) :: .int (nI j) :: .ref (aP D) :: [])) rfl ?_
  refine wr_aastV (t := j) (o := some (aR D v)) hx hb hT hI hS hR.2.1 2 rfl (fun v9 hv9 => by cases hv9; exact wr_any hT hI (hR.2.2.1 _ hv).1 (r := (RX1, TX1, 4)) rfl hT.2.2.2.2.2.2.2.2.2.1) (by omega) (by omega) dX3_put_6 (fun H locs hI hS => ?_)
  have hR := hR.pl j (v)
  rw [hpl] at hR
  refine lv_aload_n hx hb dX3_put_7 rfl (lv_at hl 0 rfl) ?_
  refine lv_iconst (v := 0) hx hb dX3_put_8 (by decide) ?_
  refine wr_put (ci := 2) (C := RX3) (T := TX3) (N := 2) (v := .int 0) (ty := .int) hx hb hts in_X3 tyX3 tyX3_ok nmX3 hown hT hI hS hR.1 rfl 1 (by decide) (hts (.fieldLink RX3 15 "CopyRows" "code" "I") (by decide +kernel)) rfl (by decide +kernel) rfl rfl (Nat.le_of_ble_eq_true rfl) dX3_put_9 (fun H locs hI hS => ?_)
  have hR := hR.cod (0)
  refine lv_aload_n hx hb dX3_put_12 rfl (lv_at hl 2 rfl) ?_
  refine wr_get (ci := 0) (C := RX1) (T := TX1) (N := 4) (v := .int (nI (lnv S (v)))) hx hb hts in_X1 hown hT hI (hR.2.2.1 _ hv).1 rfl 1 (by decide) (hts (.fieldLink RX3 43 "CopyRows$Row" "length" "I") (by decide +kernel)) rfl dX3_put_13 ?_
  exact re_i hx hb hr hlocks hT hA hS hI (⟨rfl, hR⟩) (Nat.le_of_ble_eq_true rfl) (Nat.le_of_ble_eq_true rfl) dX3_put_16

set_option maxHeartbeats 4000000 in
set_option maxRecDepth 100000 in
theorem cc_X3_rowOf (l : Launch) (E : En) (A : Nat → Prop) (w : Wd) {S : Sx} {D : Ad} {K : Int32 → Prop} {mask : Int32} {j : Nat} (hj : j < 12) (hm : msk mask K) (hW : Wf S) (hR : Rp E S D w) : Ct l yX3_rowOf wsX3_rowOf ({ frames := 0, cells := 0, slots := 0, locals := 0 } : Room) E A w [.ref (aH D), .int (nI j), .int mask] (fun r w' => (sPl S j = -1 ∧ r = some .null ∧ Rp E (uCod S 1) D w') ∨ (¬ sPl S j = -1 ∧ vO S (sPl S j) ∧ ¬ K (kdv S (sPl S j)) ∧ r = some .null ∧ Rp E (uCod S 5) D w') ∨ (¬ sPl S j = -1 ∧ vO S (sPl S j) ∧ K (kdv S (sPl S j)) ∧ r = some (.ref (aR D (sPl S j))) ∧ Rp E (uCod S 0) D w')) 0 0 := by
  refine Met.ofW (cc := cX3_rowOf) (maxL := 4) (ret := (some (.object "CopyRows$Row"))) (by decide) rfl ?_
  intro pp0 ee0 s m args below meth cc0 s₁ B hml hv
  obtain ⟨rfl, hT, hI, hA⟩ := hv
  have hx := B.exec
  have hb := B.bytes
  have hr := B.returns
  have hts := atoms_spec (ws := wsX3_rowOf) B.pre
  have hown : s.vm.findClass RX3 = some m.cls := findClass_of_methodNamed B.named
  have hlocks := B.notSynchronized
  have in_X1 : ∀ w ∈ wsX10, w ∈ wsX3_rowOf := by decide +kernel
  have in_X3 : ∀ w ∈ wsX30, w ∈ wsX3_rowOf := by decide +kernel
  have hS : va_S A s.heap s.heap [] := va_S.rf
  have hl := lv_entry ([.ref (aH D), .int (nI j), .int mask]) (n := 4) (Nat.le_of_ble_eq_true rfl)
  rw [lg_entry_eq]
  generalize (lg_sl ([.ref (aH D), .int (nI j), .int mask]) ++ List.replicate (4 - (lg_sl ([.ref (aH D), .int (nI j), .int mask])).length) Slot.unset).toArray = ls at hl ⊢
  have hl : lv_has ls 4 [(0, .ref (aH D)), (1, .int (nI j)), (2, .int mask)] := hl
  refine lv_aload_n hx hb dX3_rowOf_0 rfl (lv_at hl 0 rfl) ?_
  refine wr_get (ci := 2) (C := RX3) (T := TX3) (N := 2) (v := .ref (aP D)) hx hb hts in_X3 hown hT hI hR.1 rfl 0 (by decide) (hts (.fieldLink RX3 11 "CopyRows" "places" "[LCopyRows$Row;") (by decide +kernel)) rfl dX3_rowOf_1 ?_
  refine lv_iload_n hx hb dX3_rowOf_4 rfl (lv_at hl 1 rfl) ?_
  refine wr_aaldN (t := j) hx hb hT hI hR.2.1 2 rfl (by omega) (by omega) dX3_rowOf_5 ?_
  rcases hW.pl D j with ⟨ez1, ep1⟩ | ⟨ez1, hv1, ep1⟩
  · refine W.eq (g2 := F0 m 6 ls [.null]) (by rw [ep1]; rfl) ?_
    refine lv_astore_nN (lv' := [(3, .null), (0, .ref (aH D)), (1, .int (nI j)), (2, .int mask)]) hx hb dX3_rowOf_6 rfl hl (by decide) rfl (fun ls hl => ?_)
    refine lv_aload_nN hx hb dX3_rowOf_7 rfl (lv_at hl 0 rfl) ?_
    refine lv_ifnonnullN hx hb dX3_rowOf_8 ?_
    refine lv_aload_n hx hb dX3_rowOf_11 rfl (lv_at hl 1 rfl) ?_
    refine lv_iconst (v := 1) hx hb dX3_rowOf_12 (by decide) ?_
    refine wr_put (ci := 2) (C := RX3) (T := TX3) (N := 2) (v := .int 1) (ty := .int) hx hb hts in_X3 tyX3 tyX3_ok nmX3 hown hT hI hS hR.1 rfl 1 (by decide) (hts (.fieldLink RX3 15 "CopyRows" "code" "I") (by decide +kernel)) rfl (by decide +kernel) rfl rfl (Nat.le_of_ble_eq_true rfl) dX3_rowOf_13 (fun H locs hI hS => ?_)
    have hR := hR.cod (1)
    refine lv_null hx hb dX3_rowOf_16 ?_
    exact re_a hx hb hr hlocks hT hA hS hI (Or.inl rfl) (Or.inl ⟨ez1, rfl, hR⟩) (Nat.le_of_ble_eq_true rfl) (Nat.le_of_ble_eq_true rfl) dX3_rowOf_17
  · refine W.eq (g2 := F0 m 6 ls [.ref (aR D (sPl S j))]) (by rw [ep1]; rfl) ?_
    refine lv_astore_n (lv' := [(3, .ref (aR D (sPl S j))), (0, .ref (aH D)), (1, .int (nI j)), (2, .int mask)]) hx hb dX3_rowOf_6 rfl hl (by decide) rfl (fun ls hl => ?_)
    refine lv_aload_n hx hb dX3_rowOf_7 rfl (lv_at hl 0 rfl) ?_
    refine lv_ifnonnull (tgt := 18) hx hb dX3_rowOf_8 (by decide) ?_
    refine lv_iload_n hx hb dX3_rowOf_18 rfl (lv_at hl 3 rfl) ?_
    refine lv_aload_n hx hb dX3_rowOf_19 rfl (lv_at hl 0 rfl) ?_
    refine wr_get (ci := 0) (C := RX1) (T := TX1) (N := 4) (v := .int (kdv S (sPl S j))) hx hb hts in_X1 hown hT hI (hR.2.2.1 _ hv1).1 rfl 0 (by decide) (hts (.fieldLink RX3 53 "CopyRows$Row" "kind" "I") (by decide +kernel)) rfl dX3_rowOf_20 ?_
    refine lv_ishr hx hb dX3_rowOf_23 ?_
    refine lv_iconst (v := 1) hx hb dX3_rowOf_24 (by decide) ?_
    refine lv_iand hx hb dX3_rowOf_25 ?_
    refine lv_if_ne (tgt := 36) hx hb dX3_rowOf_26 (by decide) (fun c_3 => ?_) (fun c_3 => ?_)
    · refine lv_aload_n hx hb dX3_rowOf_36 rfl (lv_at hl 1 rfl) ?_
      refine lv_iconst (v := 0) hx hb dX3_rowOf_37 (by decide) ?_
      refine wr_put (ci := 2) (C := RX3) (T := TX3) (N := 2) (v := .int 0) (ty := .int) hx hb hts in_X3 tyX3 tyX3_ok nmX3 hown hT hI hS hR.1 rfl 1 (by decide) (hts (.fieldLink RX3 15 "CopyRows" "code" "I") (by decide +kernel)) rfl (by decide +kernel) rfl rfl (Nat.le_of_ble_eq_true rfl) dX3_rowOf_38 (fun H locs hI hS => ?_)
      have hR := hR.cod (0)
      refine lv_aload_n hx hb dX3_rowOf_41 rfl (lv_at hl 0 rfl) ?_
      exact re_a hx hb hr hlocks hT hA hS hI (Or.inr ⟨_, rfl⟩) (Or.inr (Or.inr ⟨ez1, hv1, Classical.byContradiction fun q => c_3 ((hm _ (kd_cases (hW.kd hv1).1 (hW.kd hv1).2)).mpr q), rfl, hR⟩)) (Nat.le_of_ble_eq_true rfl) (Nat.le_of_ble_eq_true rfl) dX3_rowOf_42
    · refine lv_aload_n hx hb dX3_rowOf_29 rfl (lv_at hl 1 rfl) ?_
      refine lv_iconst (v := 5) hx hb dX3_rowOf_30 (by decide) ?_
      refine wr_put (ci := 2) (C := RX3) (T := TX3) (N := 2) (v := .int 5) (ty := .int) hx hb hts in_X3 tyX3 tyX3_ok nmX3 hown hT hI hS hR.1 rfl 1 (by decide) (hts (.fieldLink RX3 15 "CopyRows" "code" "I") (by decide +kernel)) rfl (by decide +kernel) rfl rfl (Nat.le_of_ble_eq_true rfl) dX3_rowOf_31 (fun H locs hI hS => ?_)
      have hR := hR.cod (5)
      refine lv_null hx hb dX3_rowOf_34 ?_
      exact re_a hx hb hr hlocks hT hA hS hI (Or.inl rfl) (Or.inr (Or.inl ⟨ez1, hv1, (hm _ (kd_cases (hW.kd hv1).1 (hW.kd hv1).2)).mp c_3, rfl, hR⟩)) (Nat.le_of_ble_eq_true rfl) (Nat.le_of_ble_eq_true rfl) dX3_rowOf_35

set_option maxHeartbeats 4000000 in
set_option maxRecDepth 100000 in
theorem cc_X3_code (l : Launch) (E : En) (A : Nat → Prop) (w : Wd) {S : Sx} {D : Ad} (hW : Wf S) (hR : Rp E S D w) : Ct l yX3_code wsX3_code ({ frames := 0, cells := 0, slots := 0, locals := 0 } : Room) E A w [.ref (aH D)] (fun r w' => PoC E D (sp_code S) r w') 0 0 := by
  refine Met.ofW (cc := cX3_code) (maxL := 1) (ret := (some .int)) (by decide) rfl ?_
  intro pp0 ee0 s m args below meth cc0 s₁ B hml hv
  obtain ⟨rfl, hT, hI, hA⟩ := hv
  have hx := B.exec
  have hb := B.bytes
  have hr := B.returns
  have hts := atoms_spec (ws := wsX3_code) B.pre
  have hown : s.vm.findClass RX3 = some m.cls := findClass_of_methodNamed B.named
  have hlocks := B.notSynchronized
  have in_X3 : ∀ w ∈ wsX30, w ∈ wsX3_code := by decide +kernel
  have hS : va_S A s.heap s.heap [] := va_S.rf
  have hl := lv_entry ([.ref (aH D)]) (n := 1) (Nat.le_of_ble_eq_true rfl)
  rw [lg_entry_eq]
  generalize (lg_sl ([.ref (aH D)]) ++ List.replicate (1 - (lg_sl ([.ref (aH D)])).length) Slot.unset).toArray = ls at hl ⊢
  have hl : lv_has ls 1 [(0, .ref (aH D))] := hl
  refine lv_aload_n hx hb dX3_code_0 rfl (lv_at hl 0 rfl) ?_
  refine wr_get (ci := 2) (C := RX3) (T := TX3) (N := 2) (v := .int (sCod S)) hx hb hts in_X3 hown hT hI hR.1 rfl 1 (by decide) (hts (.fieldLink RX3 15 "CopyRows" "code" "I") (by decide +kernel)) rfl dX3_code_1 ?_
  exact re_i hx hb hr hlocks hT hA hS hI (PoC.of rfl hR rfl) (Nat.le_of_ble_eq_true rfl) (Nat.le_of_ble_eq_true rfl) dX3_code_4

set_option maxHeartbeats 4000000 in
set_option maxRecDepth 100000 in
theorem cc_X3_kind (l : Launch) (E : En) (A : Nat → Prop) (w : Wd) {S : Sx} {D : Ad} (p : Int32) (hW : Wf S) (hR : Rp E S D w) (hb9 : sNr S < 512 ∧ sNt S < 512 ∧ sNl S < 512) : Ct l yX3_kind wsX3_kind ({ frames := 1, cells := 0, slots := 0, locals := 20 } : Room) E A w [.ref (aH D), .int p] (fun r w' => PoC E D (sp_kind S p) r w') 0 0 := by
  refine Met.ofW (cc := cX3_kind) (maxL := 2) (ret := (some .int)) (by decide) rfl ?_
  intro pp0 ee0 s m args below meth cc0 s₁ B hml hv
  obtain ⟨rfl, hT, hI, hA⟩ := hv
  have hx := B.exec
  have hb := B.bytes
  have hr := B.returns
  have hts := atoms_spec (ws := wsX3_kind) B.pre
  have hown : s.vm.findClass RX3 = some m.cls := findClass_of_methodNamed B.named
  have hlocks := B.notSynchronized
  have in_X3 : ∀ w ∈ wsX30, w ∈ wsX3_kind := by decide +kernel
  have hS : va_S A s.heap s.heap [] := va_S.rf
  have hl := lv_entry ([.ref (aH D), .int p]) (n := 2) (Nat.le_of_ble_eq_true rfl)
  rw [lg_entry_eq]
  generalize (lg_sl ([.ref (aH D), .int p]) ++ List.replicate (2 - (lg_sl ([.ref (aH D), .int p])).length) Slot.unset).toArray = ls at hl ⊢
  have hl : lv_has ls 2 [(0, .ref (aH D)), (1, .int p)] := hl
  refine lv_iload_n hx hb dX3_kind_0 rfl (lv_at hl 1 rfl) ?_
  refine ca_S (As := [.int p]) (rest := []) ⟨hx, hb, hml, hown, hts⟩ (cc_X3_isOutside l E A _ p) (va_cwS 1 hts gX3_kind_X3_isOutside rfl rfl rfl (by decide +kernel) ⟨(Nat.le_of_ble_eq_true rfl), (Nat.le_of_ble_eq_true rfl)⟩) hT hI hA hS rfl rfl hl.1 (Nat.le_of_ble_eq_true rfl) dX3_kind_1 ⟨(Nat.le_of_ble_eq_true rfl), (Nat.le_of_ble_eq_true rfl)⟩ (fun r w_2 H locs hp_1 hI hS => ?_)
  obtain ⟨rfl, ⟨ho_3, rfl⟩ | ⟨ho_3, rfl⟩⟩ := hp_1
  · refine W.eq (g2 := F0 m 4 ls [.int 1]) rfl ?_
    refine lv_if_eq (tgt := 12) hx hb dX3_kind_4 (by decide) (fun c => absurd c (by decide)) (fun _ => ?_)
    refine lv_ldc (v := -2000000001) hx hb hown (hts (.constant RX3 23 (-2000000001)) (by decide +kernel)) dX3_kind_7 ?_
    refine lv_goto (tgt := 21) hx hb dX3_kind_9 (by decide) ?_
    exact re_i hx hb hr hlocks hT hA hS hI (PoC.of (by
            unfold sp_kind
            rw [if_pos (ho_3)]) hR rfl) (Nat.le_of_ble_eq_true rfl) (Nat.le_of_ble_eq_true rfl) dX3_kind_21
  · refine W.eq (g2 := F0 m 4 ls [.int 0]) rfl ?_
    refine lv_if_eq (tgt := 12) hx hb dX3_kind_4 (by decide) (fun _ => ?_) (fun c => absurd c (by decide))
    refine lv_aload_n hx hb dX3_kind_12 rfl (lv_at hl 0 rfl) ?_
    refine wr_get (ci := 2) (C := RX3) (T := TX3) (N := 2) (v := .ref (aP D)) hx hb hts in_X3 hown hT hI hR.1 rfl 0 (by decide) (hts (.fieldLink RX3 11 "CopyRows" "places" "[LCopyRows$Row;") (by decide +kernel)) rfl dX3_kind_13 ?_
    refine lv_iload_n hx hb dX3_kind_16 rfl (lv_at hl 1 rfl) ?_
    obtain ⟨pj, hpj, rfl⟩ := isP_nat ho_3
    refine wr_aaldN (t := pj) hx hb hT hI hR.2.1 2 rfl (by omega) (by omega) dX3_kind_17 ?_
    rcases hW.pl D pj with ⟨ez4, ep4⟩ | ⟨ez4, hv4, ep4⟩
    · refine W.eq (g2 := F0 m 18 ls [.null]) (by rw [ep4]; rfl) ?_
      refine ca_S (As := [.null]) (rest := []) ⟨hx, hb, hml, hown, hts⟩ (cc_X3_kindOf_N l E A _) (va_cwS 1 hts gX3_kind_X3_kindOf rfl rfl rfl (by decide +kernel) ⟨(Nat.le_of_ble_eq_true rfl), (Nat.le_of_ble_eq_true rfl)⟩) hT hI hA hS rfl rfl hl.1 (Nat.le_of_ble_eq_true rfl) dX3_kind_18 ⟨(Nat.le_of_ble_eq_true rfl), (Nat.le_of_ble_eq_true rfl)⟩ (fun r w_6 H locs hp_5 hI hS => ?_)
      obtain ⟨rfl, rfl⟩ := hp_5
      refine W.eq (g2 := F0 m 21 ls [.int (-1)]) rfl ?_
      exact re_i hx hb hr hlocks hT hA hS hI (PoC.of (by
                unfold sp_kind
                try simp only [pv_nI hpj]
                rw [if_neg (ho_3)]
                rw [show kp S (sPl S pj) = -1 from if_pos ez4]) hR rfl) (Nat.le_of_ble_eq_true rfl) (Nat.le_of_ble_eq_true rfl) dX3_kind_21
    · refine W.eq (g2 := F0 m 18 ls [.ref (aR D (sPl S pj))]) (by rw [ep4]; rfl) ?_
      refine ca_S (As := [.ref (aR D (sPl S pj))]) (rest := []) ⟨hx, hb, hml, hown, hts⟩ (cc_X3_kindOf_R l E A _ (hR.2.2.1 _ hv4).1) (va_cwS 1 hts gX3_kind_X3_kindOf rfl rfl rfl (by decide +kernel) ⟨(Nat.le_of_ble_eq_true rfl), (Nat.le_of_ble_eq_true rfl)⟩) hT hI hA hS rfl rfl hl.1 (Nat.le_of_ble_eq_true rfl) dX3_kind_18 ⟨(Nat.le_of_ble_eq_true rfl), (Nat.le_of_ble_eq_true rfl)⟩ (fun r w_8 H locs hp_7 hI hS => ?_)
      obtain ⟨rfl, rfl⟩ := hp_7
      refine W.eq (g2 := F0 m 21 ls [.int (kdv S (sPl S pj))]) rfl ?_
      exact re_i hx hb hr hlocks hT hA hS hI (PoC.of (by
                unfold sp_kind
                try simp only [pv_nI hpj]
                rw [if_neg (ho_3)]
                rw [show kp S (sPl S pj) = kdv S (sPl S pj) from if_neg ez4]) hR rfl) (Nat.le_of_ble_eq_true rfl) (Nat.le_of_ble_eq_true rfl) dX3_kind_21

set_option maxHeartbeats 4000000 in
set_option maxRecDepth 100000 in
theorem cc_X3_nothing (l : Launch) (E : En) (A : Nat → Prop) (w : Wd) {S : Sx} {D : Ad} (p : Int32) (hW : Wf S) (hR : Rp E S D w) (hb9 : sNr S < 512 ∧ sNt S < 512 ∧ sNl S < 512) : Ct l yX3_nothing wsX3_nothing ({ frames := 1, cells := 0, slots := 0, locals := 20 } : Room) E A w [.ref (aH D), .int p] (fun r w' => PoC E D (sp_nothing S p) r w') 0 0 := by
  refine Met.ofW (cc := cX3_nothing) (maxL := 3) (ret := (some .int)) (by decide) rfl ?_
  intro pp0 ee0 s m args below meth cc0 s₁ B hml hv
  obtain ⟨rfl, hT, hI, hA⟩ := hv
  have hx := B.exec
  have hb := B.bytes
  have hr := B.returns
  have hts := atoms_spec (ws := wsX3_nothing) B.pre
  have hown : s.vm.findClass RX3 = some m.cls := findClass_of_methodNamed B.named
  have hlocks := B.notSynchronized
  have in_X3 : ∀ w ∈ wsX30, w ∈ wsX3_nothing := by decide +kernel
  have hS : va_S A s.heap s.heap [] := va_S.rf
  have hl := lv_entry ([.ref (aH D), .int p]) (n := 3) (Nat.le_of_ble_eq_true rfl)
  rw [lg_entry_eq]
  generalize (lg_sl ([.ref (aH D), .int p]) ++ List.replicate (3 - (lg_sl ([.ref (aH D), .int p])).length) Slot.unset).toArray = ls at hl ⊢
  have hl : lv_has ls 3 [(0, .ref (aH D)), (1, .int p)] := hl
  refine lv_iload_n hx hb dX3_nothing_0 rfl (lv_at hl 1 rfl) ?_
  refine ca_S (As := [.int p]) (rest := []) ⟨hx, hb, hml, hown, hts⟩ (cc_X3_isOutside l E A _ p) (va_cwS 1 hts gX3_nothing_X3_isOutside rfl rfl rfl (by decide +kernel) ⟨(Nat.le_of_ble_eq_true rfl), (Nat.le_of_ble_eq_true rfl)⟩) hT hI hA hS rfl rfl hl.1 (Nat.le_of_ble_eq_true rfl) dX3_nothing_1 ⟨(Nat.le_of_ble_eq_true rfl), (Nat.le_of_ble_eq_true rfl)⟩ (fun r w_2 H locs hp_1 hI hS => ?_)
  obtain ⟨rfl, ⟨ho_3, rfl⟩ | ⟨ho_3, rfl⟩⟩ := hp_1
  · refine W.eq (g2 := F0 m 4 ls [.int 1]) rfl ?_
    refine lv_if_eq (tgt := 10) hx hb dX3_nothing_4 (by decide) (fun c => absurd c (by decide)) (fun _ => ?_)
    refine lv_ldc (v := -2000000001) hx hb hown (hts (.constant RX3 23 (-2000000001)) (by decide +kernel)) dX3_nothing_7 ?_
    exact re_i hx hb hr hlocks hT hA hS hI (PoC.of (by
            unfold sp_nothing
            rw [if_pos (ho_3)]) hR rfl) (Nat.le_of_ble_eq_true rfl) (Nat.le_of_ble_eq_true rfl) dX3_nothing_9
  · refine W.eq (g2 := F0 m 4 ls [.int 0]) rfl ?_
    refine lv_if_eq (tgt := 10) hx hb dX3_nothing_4 (by decide) (fun _ => ?_) (fun c => absurd c (by decide))
    refine lv_aload_n hx hb dX3_nothing_10 rfl (lv_at hl 0 rfl) ?_
    refine wr_get (ci := 2) (C := RX3) (T := TX3) (N := 2) (v := .ref (aP D)) hx hb hts in_X3 hown hT hI hR.1 rfl 0 (by decide) (hts (.fieldLink RX3 11 "CopyRows" "places" "[LCopyRows$Row;") (by decide +kernel)) rfl dX3_nothing_11 ?_
    refine lv_iload_n hx hb dX3_nothing_14 rfl (lv_at hl 1 rfl) ?_
    obtain ⟨pj, hpj, rfl⟩ := isP_nat ho_3
    refine wr_aaldN (t := pj) hx hb hT hI hR.2.1 2 rfl (by omega) (by omega) dX3_nothing_15 ?_
    rcases hW.pl D pj with ⟨ez4, ep4⟩ | ⟨ez4, hv4, ep4⟩
    · refine W.eq (g2 := F0 m 16 ls [.null]) (by rw [ep4]; rfl) ?_
      refine ca_S (As := [.null]) (rest := []) ⟨hx, hb, hml, hown, hts⟩ (cc_X3_kindOf_N l E A _) (va_cwS 1 hts gX3_nothing_X3_kindOf rfl rfl rfl (by decide +kernel) ⟨(Nat.le_of_ble_eq_true rfl), (Nat.le_of_ble_eq_true rfl)⟩) hT hI hA hS rfl rfl hl.1 (Nat.le_of_ble_eq_true rfl) dX3_nothing_16 ⟨(Nat.le_of_ble_eq_true rfl), (Nat.le_of_ble_eq_true rfl)⟩ (fun r w_6 H locs hp_5 hI hS => ?_)
      obtain ⟨rfl, rfl⟩ := hp_5
      refine W.eq (g2 := F0 m 19 ls [.int (-1)]) rfl ?_
      refine lv_istore_n (lv' := [(2, .int (-1)), (0, .ref (aH D)), (1, .int (nI pj))]) hx hb dX3_nothing_19 rfl hl (by decide) rfl (fun ls hl => ?_)
      refine lv_aload_n hx hb dX3_nothing_20 rfl (lv_at hl 1 rfl) ?_
      refine wr_get (ci := 2) (C := RX3) (T := TX3) (N := 2) (v := .ref (aP D)) hx hb hts in_X3 hown hT hI hR.1 rfl 0 (by decide) (hts (.fieldLink RX3 11 "CopyRows" "places" "[LCopyRows$Row;") (by decide +kernel)) rfl dX3_nothing_21 ?_
      refine lv_iload_n hx hb dX3_nothing_24 rfl (lv_at hl 2 rfl) ?_
      refine lv_null hx hb dX3_nothing_25 ?_
      refine W.eq (g2 := F0 m 26 ls (va_rf none :: .int (nI pj) :: .ref (aP D) :: [])) rfl ?_
      refine wr_aastV (t := pj) (o := none) hx hb hT hI hS hR.2.1 2 rfl (fun v9 hv9 => by cases hv9) (by omega) (by omega) dX3_nothing_26 (fun H locs hI hS => ?_)
      have hR := hR.pl pj (-1)
      rw [show plO D (-1) = none from if_pos rfl] at hR
      refine lv_iload_n hx hb dX3_nothing_27 rfl (lv_at hl 0 rfl) ?_
      exact re_i hx hb hr hlocks hT hA hS hI (PoC.of (by
                unfold sp_nothing
                try simp only [pv_nI hpj]
                rw [if_neg (ho_3)]
                rw [show kp S (sPl S pj) = -1 from if_pos ez4, ix_nI (by omega)]) hR rfl) (Nat.le_of_ble_eq_true rfl) (Nat.le_of_ble_eq_true rfl) dX3_nothing_28
    · refine W.eq (g2 := F0 m 16 ls [.ref (aR D (sPl S pj))]) (by rw [ep4]; rfl) ?_
      refine ca_S (As := [.ref (aR D (sPl S pj))]) (rest := []) ⟨hx, hb, hml, hown, hts⟩ (cc_X3_kindOf_R l E A _ (hR.2.2.1 _ hv4).1) (va_cwS 1 hts gX3_nothing_X3_kindOf rfl rfl rfl (by decide +kernel) ⟨(Nat.le_of_ble_eq_true rfl), (Nat.le_of_ble_eq_true rfl)⟩) hT hI hA hS rfl rfl hl.1 (Nat.le_of_ble_eq_true rfl) dX3_nothing_16 ⟨(Nat.le_of_ble_eq_true rfl), (Nat.le_of_ble_eq_true rfl)⟩ (fun r w_8 H locs hp_7 hI hS => ?_)
      obtain ⟨rfl, rfl⟩ := hp_7
      refine W.eq (g2 := F0 m 19 ls [.int (kdv S (sPl S pj))]) rfl ?_
      refine lv_istore_n (lv' := [(2, .int (kdv S (sPl S pj))), (0, .ref (aH D)), (1, .int (nI pj))]) hx hb dX3_nothing_19 rfl hl (by decide) rfl (fun ls hl => ?_)
      refine lv_aload_n hx hb dX3_nothing_20 rfl (lv_at hl 1 rfl) ?_
      refine wr_get (ci := 2) (C := RX3) (T := TX3) (N := 2) (v := .ref (aP D)) hx hb hts in_X3 hown hT hI hR.1 rfl 0 (by decide) (hts (.fieldLink RX3 11 "CopyRows" "places" "[LCopyRows$Row;") (by decide +kernel)) rfl dX3_nothing_21 ?_
      refine lv_iload_n hx hb dX3_nothing_24 rfl (lv_at hl 2 rfl) ?_
      refine lv_null hx hb dX3_nothing_25 ?_
      refine W.eq (g2 := F0 m 26 ls (va_rf none :: .int (nI pj) :: .ref (aP D) :: [])) rfl ?_
      refine wr_aastV (t := pj) (o := none) hx hb hT hI hS hR.2.1 2 rfl (fun v9 hv9 => by cases hv9) (by omega) (by omega) dX3_nothing_26 (fun H locs hI hS => ?_)
      have hR := hR.pl pj (-1)
      rw [show plO D (-1) = none from if_pos rfl] at hR
      refine lv_iload_n hx hb dX3_nothing_27 rfl (lv_at hl 0 rfl) ?_
      exact re_i hx hb hr hlocks hT hA hS hI (PoC.of (by
                unfold sp_nothing
                try simp only [pv_nI hpj]
                rw [if_neg (ho_3)]
                rw [show kp S (sPl S pj) = kdv S (sPl S pj) from if_neg ez4, ix_nI (by omega)]) hR rfl) (Nat.le_of_ble_eq_true rfl) (Nat.le_of_ble_eq_true rfl) dX3_nothing_28

set_option maxHeartbeats 4000000 in
set_option maxRecDepth 100000 in
theorem cc_X3_length (l : Launch) (E : En) (A : Nat → Prop) (w : Wd) {S : Sx} {D : Ad} (p : Int32) (hW : Wf S) (hR : Rp E S D w) (hb9 : sNr S < 512 ∧ sNt S < 512 ∧ sNl S < 512) : Ct l yX3_length wsX3_length ({ frames := 1, cells := 0, slots := 0, locals := 23 } : Room) E A w [.ref (aH D), .int p] (fun r w' => PoC E D (sp_length S p) r w') 0 0 := by
  refine Met.ofW (cc := cX3_length) (maxL := 3) (ret := (some .int)) (by decide) rfl ?_
  intro pp0 ee0 s m args below meth cc0 s₁ B hml hv
  obtain ⟨rfl, hT, hI, hA⟩ := hv
  have hx := B.exec
  have hb := B.bytes
  have hr := B.returns
  have hts := atoms_spec (ws := wsX3_length) B.pre
  have hown : s.vm.findClass RX3 = some m.cls := findClass_of_methodNamed B.named
  have hlocks := B.notSynchronized
  have in_X1 : ∀ w ∈ wsX10, w ∈ wsX3_length := by decide +kernel
  have hS : va_S A s.heap s.heap [] := va_S.rf
  have hl := lv_entry ([.ref (aH D), .int p]) (n := 3) (Nat.le_of_ble_eq_true rfl)
  rw [lg_entry_eq]
  generalize (lg_sl ([.ref (aH D), .int p]) ++ List.replicate (3 - (lg_sl ([.ref (aH D), .int p])).length) Slot.unset).toArray = ls at hl ⊢
  have hl : lv_has ls 3 [(0, .ref (aH D)), (1, .int p)] := hl
  refine lv_iload_n hx hb dX3_length_0 rfl (lv_at hl 1 rfl) ?_
  refine ca_S (As := [.int p]) (rest := []) ⟨hx, hb, hml, hown, hts⟩ (cc_X3_isOutside l E A _ p) (va_cwS 1 hts gX3_length_X3_isOutside rfl rfl rfl (by decide +kernel) ⟨(Nat.le_of_ble_eq_true rfl), (Nat.le_of_ble_eq_true rfl)⟩) hT hI hA hS rfl rfl hl.1 (Nat.le_of_ble_eq_true rfl) dX3_length_1 ⟨(Nat.le_of_ble_eq_true rfl), (Nat.le_of_ble_eq_true rfl)⟩ (fun r w_2 H locs hp_1 hI hS => ?_)
  obtain ⟨rfl, ⟨ho_3, rfl⟩ | ⟨ho_3, rfl⟩⟩ := hp_1
  · refine W.eq (g2 := F0 m 4 ls [.int 1]) rfl ?_
    refine lv_if_eq (tgt := 10) hx hb dX3_length_4 (by decide) (fun c => absurd c (by decide)) (fun _ => ?_)
    refine lv_ldc (v := -2000000001) hx hb hown (hts (.constant RX3 23 (-2000000001)) (by decide +kernel)) dX3_length_7 ?_
    exact re_i hx hb hr hlocks hT hA hS hI (PoC.of (by
            unfold sp_length
            rw [if_pos (ho_3)]) hR rfl) (Nat.le_of_ble_eq_true rfl) (Nat.le_of_ble_eq_true rfl) dX3_length_9
  · refine W.eq (g2 := F0 m 4 ls [.int 0]) rfl ?_
    refine lv_if_eq (tgt := 10) hx hb dX3_length_4 (by decide) (fun _ => ?_) (fun c => absurd c (by decide))
    refine lv_aload_n hx hb dX3_length_10 rfl (lv_at hl 0 rfl) ?_
    refine lv_iload_n hx hb dX3_length_11 rfl (lv_at hl 1 rfl) ?_
    refine lv_bipush (v := 63) hx hb dX3_length_12 (by decide) ?_
    obtain ⟨pj, hpj, rfl⟩ := isP_nat ho_3
    refine ca_V (As := [.int (nI pj), .int 63]) (rest := []) (r0 := (RX3, TX3, 2)) (ci := 2) ⟨hx, hb, hml, hown, hts⟩ (cc_X3_rowOf l E A _ (by omega) msk63 hW hR) (cwV 2 hts gX3_length_X3_rowOf rfl rfl rfl (by decide +kernel) ⟨(Nat.le_of_ble_eq_true rfl), (Nat.le_of_ble_eq_true rfl)⟩) hT hI hA hS rfl hR.1 rfl rfl hl.1 (Nat.le_of_ble_eq_true rfl) dX3_length_14 ⟨(Nat.le_of_ble_eq_true rfl), (Nat.le_of_ble_eq_true rfl)⟩ (fun r w_5 H locs hp_4 hI hS => ?_)
    rcases hp_4 with ⟨ez6, rfl, hR⟩ | ⟨ez6, hv6, hk6, rfl, hR⟩ | ⟨ez6, hv6, hk6, rfl, hR⟩
    · refine W.eq (g2 := F0 m 17 ls [.null]) rfl ?_
      refine lv_astore_nN (lv' := [(2, .null), (0, .ref (aH D)), (1, .int (nI pj))]) hx hb dX3_length_17 rfl hl (by decide) rfl (fun ls hl => ?_)
      refine lv_aload_nN hx hb dX3_length_18 rfl (lv_at hl 0 rfl) ?_
      refine lv_ifnonnullN hx hb dX3_length_19 ?_
      refine lv_iconst (v := 0) hx hb dX3_length_22 (by decide) ?_
      refine lv_goto (tgt := 30) hx hb dX3_length_23 (by decide) ?_
      exact re_i hx hb hr hlocks hT hA hS hI (PoC.of (by
                unfold sp_length
                try simp only [pv_nI hpj]
                rw [if_neg (ho_3), if_pos (ez6)]) hR rfl) (Nat.le_of_ble_eq_true rfl) (Nat.le_of_ble_eq_true rfl) dX3_length_30
    · refine W.eq (g2 := F0 m 17 ls [.null]) rfl ?_
      refine lv_astore_nN (lv' := [(2, .null), (0, .ref (aH D)), (1, .int (nI pj))]) hx hb dX3_length_17 rfl hl (by decide) rfl (fun ls hl => ?_)
      refine lv_aload_nN hx hb dX3_length_18 rfl (lv_at hl 0 rfl) ?_
      refine lv_ifnonnullN hx hb dX3_length_19 ?_
      refine lv_iconst (v := 0) hx hb dX3_length_22 (by decide) ?_
      refine lv_goto (tgt := 30) hx hb dX3_length_23 (by decide) ?_
      exact re_i hx hb hr hlocks hT hA hS hI (PoC.of (by
                unfold sp_length
                try simp only [pv_nI hpj]
                rw [if_neg (ho_3), if_neg (ez6), if_pos ((Classical.not_not.mp hk6))]) hR rfl) (Nat.le_of_ble_eq_true rfl) (Nat.le_of_ble_eq_true rfl) dX3_length_30
    · have hln6 := hW.ln hv6
      have hr6 : vR S (sPl S pj) := vO_row hv6 hk6
      refine W.eq (g2 := F0 m 17 ls [.ref (aR D (sPl S pj))]) rfl ?_
      refine lv_astore_n (lv' := [(2, .ref (aR D (sPl S pj))), (0, .ref (aH D)), (1, .int (nI pj))]) hx hb dX3_length_17 rfl hl (by decide) rfl (fun ls hl => ?_)
      refine lv_aload_n hx hb dX3_length_18 rfl (lv_at hl 0 rfl) ?_
      refine lv_ifnonnull (tgt := 26) hx hb dX3_length_19 (by decide) ?_
      refine lv_aload_n hx hb dX3_length_26 rfl (lv_at hl 0 rfl) ?_
      refine wr_get (ci := 0) (C := RX1) (T := TX1) (N := 4) (v := .int (nI (lnv S (sPl S pj)))) hx hb hts in_X1 hown hT hI (hR.2.2.1 _ hv6).1 rfl 1 (by decide) (hts (.fieldLink RX3 43 "CopyRows$Row" "length" "I") (by decide +kernel)) rfl dX3_length_27 ?_
      exact re_i hx hb hr hlocks hT hA hS hI (PoC.of (by
                unfold sp_length
                try simp only [pv_nI hpj]
                rw [if_neg (ho_3), if_neg (ez6), if_neg (hk6)]) hR rfl) (Nat.le_of_ble_eq_true rfl) (Nat.le_of_ble_eq_true rfl) dX3_length_30
