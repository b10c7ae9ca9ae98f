theorem kdv_r {S : Sx} {v : Int32} (h : vR S v) : kdv S v = sKd S (ix v) := by unfold kdv; rw [if_neg h.1]
theorem lnv_r {S : Sx} {v : Int32} (h : vR S v) : lnv S v = sLn S (ix v) := by unfold lnv; rw [if_neg h.1]
theorem itv_r {S : Sx} {v : Int32} (h : vR S v) : itv S v = sIt S (ix v) := by unfold itv; rw [if_neg h.1]
theorem m1_toInt : (-1 : Int32).toInt = -1 := by decide
theorem pl_row {S : Sx} {v : Int32} (h : v = -1 ∨ vO S v) (h1 : ¬ v = -1) (h2 : -1 ≤ v) : vR S v := by
  rcases h.resolve_left h1 with h | h
  · exact h
  · rw [Int32.le_iff_toInt_le, m1_toInt] at h2
    have := h.1
    omega
theorem pl_lump {S : Sx} {v : Int32} (h : v = -1 ∨ vO S v) (h1 : ¬ v = -1) (h2 : ¬ -1 ≤ v) : kdv S v = 6 ∧ ¬ vR S v := by
  have hneg : v < 0 := by
    rw [Int32.le_iff_toInt_le, m1_toInt] at h2
    rw [Int32.lt_iff_toInt_lt]
    simp
    omega
  exact ⟨by unfold kdv; rw [if_pos hneg], fun q => q.1 hneg⟩
theorem kp_ne {S : Sx} {v : Int32} (h : ¬ v = -1) : kp S v = kdv S v := if_neg h
theorem row_kd {S : Sx} (hW : Wf S) {v : Int32} (h : vR S v) : ¬ kdv S v = 6 := fun e => by
  have := (hW.row h).1.2
  rw [e] at this
  exact absurd this (by decide)
theorem lt2 {k : Int32} (h : 0 ≤ k ∧ k ≤ 6) : k < 2 ↔ isN k := by
  rcases kd_cases h.1 h.2 with q | q | q | q | q | q | q <;> rw [q] <;> decide
theorem i64_iff {x y : Int32} : x.toInt64 ≤ y.toInt64 ↔ x ≤ y := by
  rw [Int64.le_iff_toInt_le, Int32.toInt_toInt64, Int32.toInt_toInt64, Int32.le_iff_toInt_le]
theorem in_item {n : Nat} {k : Int32} (hn : n ≤ 40) : ((0 : Int64) ≤ k.toInt64 ∧ k.toInt64 ≤ (nI n - 1).toInt64) ↔ ¬ oI n k := by
  rw [i64_ge0, Int64.le_iff_toInt_le, Int32.toInt_toInt64, Int32.toInt_toInt64]
  have e : (nI n - 1).toInt = (n : Int) - 1 := by
    rw [Int32.toInt_sub, nI_toInt (by omega), show (1 : Int32).toInt = 1 by decide]
    apply Int.bmod_eq_of_le <;> omega
  rw [e]
  unfold oI
  rw [Int32.lt_iff_toInt_lt, Int32.le_iff_toInt_le, nI_toInt (by omega), show (0 : Int32).toInt = 0 by decide]
  omega
theorem low8_eq {v : Int32} : (if v &&& 255 ≤ 127 then v &&& 255 else (v &&& 255) - 256) = v.toInt8.toInt32 := by
  have h1 : (v &&& 255).toInt = v.toInt % 2 ^ 8 := Jvm.Kit.i32_mask v 255 (by decide) (by decide)
  have h1 : (v &&& 255).toInt = v.toInt % 256 := h1
  have h2 : v.toInt8.toInt32.toInt = v.toInt.bmod 256 := by
    rw [Int8.toInt_toInt32, Int32.toInt_toInt8]
  apply Int32.toInt_inj.mp
  rw [h2]
  by_cases h : v &&& 255 ≤ 127
  · rw [if_pos h, h1]
    rw [Int32.le_iff_toInt_le, h1, show (127 : Int32).toInt = 127 by decide] at h
    rw [Int.bmod_def]
    omega
  · rw [if_neg h, Int32.toInt_sub, h1]
    rw [Int32.le_iff_toInt_le, h1, show (127 : Int32).toInt = 127 by decide] at h
    rw [show (256 : Int32).toInt = 256 by decide]
    rw [show (v.toInt % 256 - 256).bmod (2 ^ 32) = v.toInt % 256 - 256 from Int.bmod_eq_of_le (by omega) (by omega), Int.bmod_def]
    omega
set_option maxHeartbeats 4000000 in
set_option maxRecDepth 100000 in
theorem cc_X4_within (l : Launch) (E : En) (A : Nat → Prop) (w : Wd) (a b d : Int64) : Ct l yX4_within wsX4_within ({ frames := 0, cells := 0, slots := 0, locals := 0 } : Room) E A w [.long a, .long b, .long d] (fun r w' => w = w' ∧ (((b ≤ a ∧ a ≤ d) ∧ r = some (.int 1)) ∨ (¬ (b ≤ a ∧ a ≤ d) ∧ r = some (.int 0)))) 0 0 := by
  refine Met.ofW (cc := cX4_within) (maxL := 6) (ret := (some .boolean)) (by decide) rfl ?_
  intro pp0 ee0 s m args below meth cc0 s₁ B hml hv
  obtain ⟨rfl, hT, hI, hA⟩ := hv
  have hx := B.exec
  have hb := B.bytes
  have hr := B.returns
  have hts := atoms_spec (ws := wsX4_within) B.pre
  have hown : s.vm.findClass RX4 = some m.cls := findClass_of_methodNamed B.named
  have hlocks := B.notSynchronized
  have hS : va_S A s.heap s.heap [] := va_S.rf
  have hl := lv_entry ([.long a, .long b, .long d]) (n := 6) (Nat.le_of_ble_eq_true rfl)
  rw [lg_entry_eq]
  generalize (lg_sl ([.long a, .long b, .long d]) ++ List.replicate (6 - (lg_sl ([.long a, .long b, .long d])).length) Slot.unset).toArray = ls at hl ⊢
  have hl : lv_has ls 6 [(0, .long a), (2, .long b), (4, .long d)] := hl
  refine lv_lload_n hx hb dX4_within_0 rfl (lv_at hl 0 rfl) ?_
  refine lv_lload_n hx hb dX4_within_1 rfl (lv_at hl 1 rfl) ?_
  refine W.lcmp hx hb dX4_within_2 ?_
  refine lv_if_lt (tgt := 17) hx hb dX4_within_3 (by decide) (fun c_1 => ?_) (fun c_1 => ?_)
  · refine lv_iconst (v := 0) hx hb dX4_within_17 (by decide) ?_
    exact re_z hx hb hr hlocks hT hA hS hI (by decide) (⟨rfl, Or.inr ⟨fun q => Int64.not_lt.mpr q.1 ((lg_cmp_lt _ _).mp c_1), rfl⟩⟩) (Nat.le_of_ble_eq_true rfl) (Nat.le_of_ble_eq_true rfl) dX4_within_18
  · refine lv_lload_n hx hb dX4_within_6 rfl (lv_at hl 0 rfl) ?_
    refine lv_lload hx hb dX4_within_7 (lv_at hl 2 rfl) ?_
    refine W.lcmp hx hb dX4_within_9 ?_
    refine lv_if_gt (tgt := 17) hx hb dX4_within_10 (by decide) (fun c_2 => ?_) (fun c_2 => ?_)
    · refine lv_iconst (v := 0) hx hb dX4_within_17 (by decide) ?_
      exact re_z hx hb hr hlocks hT hA hS hI (by decide) (⟨rfl, Or.inr ⟨fun q => Int64.not_lt.mpr q.2 ((lg_cmp_gt _ _).mp c_2), rfl⟩⟩) (Nat.le_of_ble_eq_true rfl) (Nat.le_of_ble_eq_true rfl) dX4_within_18
    · refine lv_iconst (v := 1) hx hb dX4_within_13 (by decide) ?_
      refine lv_goto (tgt := 18) hx hb dX4_within_14 (by decide) ?_
      exact re_z hx hb hr hlocks hT hA hS hI (by decide) (⟨rfl, Or.inl ⟨⟨Int64.not_lt.mp (fun q => c_1 ((lg_cmp_lt _ _).mpr q)), Int64.not_lt.mp (fun q => c_2 ((lg_cmp_gt _ _).mpr q))⟩, rfl⟩⟩) (Nat.le_of_ble_eq_true rfl) (Nat.le_of_ble_eq_true rfl) dX4_within_18

set_option maxHeartbeats 4000000 in
set_option maxRecDepth 100000 in
theorem cc_X4_isPlace (l : Launch) (E : En) (A : Nat → Prop) (w : Wd) (p9 : Int32) : Ct l yX4_isPlace wsX4_isPlace ({ frames := 1, cells := 0, slots := 0, locals := 25 } : Room) E A w [.int p9] (fun r w' => w = w' ∧ (((¬ oP p9) ∧ r = some (.int 1)) ∨ (¬ (¬ oP p9) ∧ r = some (.int 0)))) 0 0 := by
  refine Met.ofW (cc := cX4_isPlace) (maxL := 1) (ret := (some .boolean)) (by decide) rfl ?_
  intro pp0 ee0 s m args below meth cc0 s₁ B hml hv
  obtain ⟨rfl, hT, hI, hA⟩ := hv
  have hx := B.exec
  have hb := B.bytes
  have hr := B.returns
  have hts := atoms_spec (ws := wsX4_isPlace) B.pre
  have hown : s.vm.findClass RX4 = some m.cls := findClass_of_methodNamed B.named
  have hlocks := B.notSynchronized
  have hS : va_S A s.heap s.heap [] := va_S.rf
  have hl := lv_entry ([.int p9]) (n := 1) (Nat.le_of_ble_eq_true rfl)
  rw [lg_entry_eq]
  generalize (lg_sl ([.int p9]) ++ List.replicate (1 - (lg_sl ([.int p9])).length) Slot.unset).toArray = ls at hl ⊢
  have hl : lv_has ls 1 [(0, .int p9)] := hl
  refine lv_iload_n hx hb dX4_isPlace_0 rfl (lv_at hl 0 rfl) ?_
  refine lv_i2l (v := p9.toInt64) hx hb dX4_isPlace_1 rfl ?_
  refine lv_lconst (v := 0) hx hb dX4_isPlace_2 (by decide) ?_
  refine lv_ldc2 (v := 11) hx hb hown (hts (.constantLong RX4 31 (11)) (by decide +kernel)) dX4_isPlace_3 ?_
  refine ca_S (As := [.long p9.toInt64, .long 0, .long 11]) (rest := []) ⟨hx, hb, hml, hown, hts⟩ (cc_X4_within l E A _ p9.toInt64 0 11) (va_cwS 3 hts gX4_isPlace_X4_within rfl rfl rfl (by decide +kernel) ⟨(Nat.le_of_ble_eq_true rfl), (Nat.le_of_ble_eq_true rfl)⟩) hT hI hA hS rfl rfl hl.1 (Nat.le_of_ble_eq_true rfl) dX4_isPlace_6 ⟨(Nat.le_of_ble_eq_true rfl), (Nat.le_of_ble_eq_true rfl)⟩ (fun r w_2 H locs hp_1 hI hS => ?_)
  obtain ⟨rfl, ⟨hw_3, rfl⟩ | ⟨hw_3, rfl⟩⟩ := hp_1
  · refine W.eq (g2 := F0 m 9 ls [.int 1]) rfl ?_
    exact re_z hx hb hr hlocks hT hA hS hI (by decide) (⟨rfl, Or.inl ⟨place_iff.mp hw_3, rfl⟩⟩) (Nat.le_of_ble_eq_true rfl) (Nat.le_of_ble_eq_true rfl) dX4_isPlace_9
  · refine W.eq (g2 := F0 m 9 ls [.int 0]) rfl ?_
    exact re_z hx hb hr hlocks hT hA hS hI (by decide) (⟨rfl, Or.inr ⟨fun q => hw_3 (place_iff.mpr q), rfl⟩⟩) (Nat.le_of_ble_eq_true rfl) (Nat.le_of_ble_eq_true rfl) dX4_isPlace_9

set_option maxHeartbeats 4000000 in
set_option maxRecDepth 100000 in
theorem cc_X4_code (l : Launch) (E : En) (A : Nat → Prop) (w : Wd) {S : Sx} {M : Md} {tt : Nat → Int32} (hW : Wf S) (hR : Rm E S M tt w) : Ct l yX4_code wsX4_code ({ frames := 0, cells := 0, slots := 0, locals := 0 } : Room) E A w [.ref (mH M)] (fun r w' => PoM E M (sp_code S) r w') 0 0 := by
  refine Met.ofW (cc := cX4_code) (maxL := 1) (ret := (some .int)) (by decide) rfl ?_
  intro pp0 ee0 s m args below meth cc0 s₁ B hml hv
  obtain ⟨rfl, hT, hI, hA⟩ := hv
  have hx := B.exec
  have hb := B.bytes
  have hr := B.returns
  have hts := atoms_spec (ws := wsX4_code) B.pre
  have hown : s.vm.findClass RX4 = some m.cls := findClass_of_methodNamed B.named
  have hlocks := B.notSynchronized
  have in_X4 : ∀ w ∈ wsX40, w ∈ wsX4_code := by decide +kernel
  have hS : va_S A s.heap s.heap [] := va_S.rf
  have hl := lv_entry ([.ref (mH M)]) (n := 1) (Nat.le_of_ble_eq_true rfl)
  rw [lg_entry_eq]
  generalize (lg_sl ([.ref (mH M)]) ++ List.replicate (1 - (lg_sl ([.ref (mH M)])).length) Slot.unset).toArray = ls at hl ⊢
  have hl : lv_has ls 1 [(0, .ref (mH M))] := hl
  refine lv_aload_n hx hb dX4_code_0 rfl (lv_at hl 0 rfl) ?_
  refine wr_get (ci := 3) (C := RX4) (T := TX4) (N := 11) (v := .int (sCod S)) hx hb hts in_X4 hown hT hI hR.1 rfl 0 (by decide) (hts (.fieldLink RX4 37 "CopyRowsModel" "code" "I") (by decide +kernel)) rfl dX4_code_1 ?_
  exact re_i hx hb hr hlocks hT hA hS hI (PoM.of rfl hR) (Nat.le_of_ble_eq_true rfl) (Nat.le_of_ble_eq_true rfl) dX4_code_4

set_option maxHeartbeats 4000000 in
set_option maxRecDepth 100000 in
theorem cc_X4_no (l : Launch) (E : En) (A : Nat → Prop) (w : Wd) {S : Sx} {M : Md} {tt : Nat → Int32} (x : Int32) (hR : Rm E S M tt w) : Ct l yX4_no wsX4_no ({ frames := 0, cells := 0, slots := 0, locals := 0 } : Room) E A w [.ref (mH M), .int x] (fun r w' => r = some (.int 0) ∧ Rm E (uCod S x) M tt w') 0 0 := by
  refine Met.ofW (cc := cX4_no) (maxL := 2) (ret := (some .int)) (by decide) rfl ?_
  intro pp0 ee0 s m args below meth cc0 s₁ B hml hv
  obtain ⟨rfl, hT, hI, hA⟩ := hv
  have hx := B.exec
  have hb := B.bytes
  have hr := B.returns
  have hts := atoms_spec (ws := wsX4_no) B.pre
  have hown : s.vm.findClass RX4 = some m.cls := findClass_of_methodNamed B.named
  have hlocks := B.notSynchronized
  have in_X4 : ∀ w ∈ wsX40, w ∈ wsX4_no := by decide +kernel
  have hS : va_S A s.heap s.heap [] := va_S.rf
  have hl := lv_entry ([.ref (mH M), .int x]) (n := 2) (Nat.le_of_ble_eq_true rfl)
  rw [lg_entry_eq]
  generalize (lg_sl ([.ref (mH M), .int x]) ++ List.replicate (2 - (lg_sl ([.ref (mH M), .int x])).length) Slot.unset).toArray = ls at hl ⊢
  have hl : lv_has ls 2 [(0, .ref (mH M)), (1, .int x)] := hl
  refine lv_aload_n hx hb dX4_no_0 rfl (lv_at hl 0 rfl) ?_
  refine lv_iload_n hx hb dX4_no_1 rfl (lv_at hl 1 rfl) ?_
  refine wr_put (ci := 3) (C := RX4) (T := TX4) (N := 11) (v := .int x) (ty := .int) hx hb hts in_X4 tyX4 tyX4_ok nmX4 hown hT hI hS hR.1 rfl 0 (by decide) (hts (.fieldLink RX4 37 "CopyRowsModel" "code" "I") (by decide +kernel)) rfl (by decide +kernel) rfl rfl (Nat.le_of_ble_eq_true rfl) dX4_no_2 (fun H locs hI hS => ?_)
  have hR := hR.obj (uCod S x) rfl rfl rfl rfl rfl rfl
  refine lv_iconst (v := 0) hx hb dX4_no_5 (by decide) ?_
  exact re_i hx hb hr hlocks hT hA hS hI (⟨rfl, hR⟩) (Nat.le_of_ble_eq_true rfl) (Nat.le_of_ble_eq_true rfl) dX4_no_6

set_option maxHeartbeats 4000000 in
set_option maxRecDepth 100000 in
theorem cc_X4_yes (l : Launch) (E : En) (A : Nat → Prop) (w : Wd) {S : Sx} {M : Md} {tt : Nat → Int32} (x : Int32) (hR : Rm E S M tt w) : Ct l yX4_yes wsX4_yes ({ frames := 0, cells := 0, slots := 0, locals := 0 } : Room) E A w [.ref (mH M), .int x] (fun r w' => r = some (.int x) ∧ Rm E (uCod S 0) M tt w') 0 0 := by
  refine Met.ofW (cc := cX4_yes) (maxL := 2) (ret := (some .int)) (by decide) rfl ?_
  intro pp0 ee0 s m args below meth cc0 s₁ B hml hv
  obtain ⟨rfl, hT, hI, hA⟩ := hv
  have hx := B.exec
  have hb := B.bytes
  have hr := B.returns
  have hts := atoms_spec (ws := wsX4_yes) B.pre
  have hown : s.vm.findClass RX4 = some m.cls := findClass_of_methodNamed B.named
  have hlocks := B.notSynchronized
  have in_X4 : ∀ w ∈ wsX40, w ∈ wsX4_yes := by decide +kernel
  have hS : va_S A s.heap s.heap [] := va_S.rf
  have hl := lv_entry ([.ref (mH M), .int x]) (n := 2) (Nat.le_of_ble_eq_true rfl)
  rw [lg_entry_eq]
  generalize (lg_sl ([.ref (mH M), .int x]) ++ List.replicate (2 - (lg_sl ([.ref (mH M), .int x])).length) Slot.unset).toArray = ls at hl ⊢
  have hl : lv_has ls 2 [(0, .ref (mH M)), (1, .int x)] := hl
  refine lv_aload_n hx hb dX4_yes_0 rfl (lv_at hl 0 rfl) ?_
  refine lv_iconst (v := 0) hx hb dX4_yes_1 (by decide) ?_
  refine wr_put (ci := 3) (C := RX4) (T := TX4) (N := 11) (v := .int 0) (ty := .int) hx hb hts in_X4 tyX4 tyX4_ok nmX4 hown hT hI hS hR.1 rfl 0 (by decide) (hts (.fieldLink RX4 37 "CopyRowsModel" "code" "I") (by decide +kernel)) rfl (by decide +kernel) rfl rfl (Nat.le_of_ble_eq_true rfl) dX4_yes_2 (fun H locs hI hS => ?_)
  have hR := hR.obj (uCod S 0) rfl rfl rfl rfl rfl rfl
  refine lv_iload_n hx hb dX4_yes_5 rfl (lv_at hl 1 rfl) ?_
  exact re_i hx hb hr hlocks hT hA hS hI (⟨rfl, hR⟩) (Nat.le_of_ble_eq_true rfl) (Nat.le_of_ble_eq_true rfl) dX4_yes_6

set_option maxHeartbeats 4000000 in
set_option maxRecDepth 100000 in
theorem cc_X4_kindOf (l : Launch) (E : En) (A : Nat → Prop) (w : Wd) {S : Sx} {M : Md} {tt : Nat → Int32} {j : Nat} (hj : j < 12) (hW : Wf S) (hR : Rm E S M tt w) : Ct l yX4_kindOf wsX4_kindOf ({ frames := 0, cells := 0, slots := 0, locals := 0 } : Room) E A w [.ref (mH M), .int (nI j)] (fun r w' => w = w' ∧ r = some (.int (kp S (sPl S j)))) 0 0 := by
  refine Met.ofW (cc := cX4_kindOf) (maxL := 3) (ret := (some .int)) (by decide) rfl ?_
  intro pp0 ee0 s m args below meth cc0 s₁ B hml hv
  obtain ⟨rfl, hT, hI, hA⟩ := hv
  have hx := B.exec
  have hb := B.bytes
  have hr := B.returns
  have hts := atoms_spec (ws := wsX4_kindOf) B.pre
  have hown : s.vm.findClass RX4 = some m.cls := findClass_of_methodNamed B.named
  have hlocks := B.notSynchronized
  have in_X4 : ∀ w ∈ wsX40, w ∈ wsX4_kindOf := by decide +kernel
  have hS : va_S A s.heap s.heap [] := va_S.rf
  have hl := lv_entry ([.ref (mH M), .int (nI j)]) (n := 3) (Nat.le_of_ble_eq_true rfl)
  rw [lg_entry_eq]
  generalize (lg_sl ([.ref (mH M), .int (nI j)]) ++ List.replicate (3 - (lg_sl ([.ref (mH M), .int (nI j)])).length) Slot.unset).toArray = ls at hl ⊢
  have hl : lv_has ls 3 [(0, .ref (mH M)), (1, .int (nI j))] := hl
  refine lv_aload_n hx hb dX4_kindOf_0 rfl (lv_at hl 0 rfl) ?_
  refine wr_get (ci := 3) (C := RX4) (T := TX4) (N := 11) (v := .ref (mP M)) hx hb hts in_X4 hown hT hI hR.1 rfl 1 (by decide) (hts (.fieldLink RX4 7 "CopyRowsModel" "places" "[I") (by decide +kernel)) rfl dX4_kindOf_1 ?_
  refine lv_iload_n hx hb dX4_kindOf_4 rfl (lv_at hl 1 rfl) ?_
  refine wr_ialdN (t := j) (n := 12) (f := plF S) hx hb hT hI hR.2.1 (by omega) (by omega) dX4_kindOf_5 ?_
  refine W.eq (g2 := F0 m 6 ls [.int (sPl S j)]) (by rw [plF_at (by omega)]) ?_
  refine lv_istore_n (lv' := [(2, .int (sPl S j)), (0, .ref (mH M)), (1, .int (nI j))]) hx hb dX4_kindOf_6 rfl hl (by decide) rfl (fun ls hl => ?_)
  refine lv_iload_n hx hb dX4_kindOf_7 rfl (lv_at hl 0 rfl) ?_
  refine lv_iconst (v := -1) hx hb dX4_kindOf_8 (by decide) ?_
  refine lv_icmp_ne (tgt := 16) hx hb dX4_kindOf_9 (by decide) (fun c_1 => ?_) (fun c_1 => ?_)
  · refine lv_iload_n hx hb dX4_kindOf_16 rfl (lv_at hl 0 rfl) ?_
    refine lv_iconst (v := -1) hx hb dX4_kindOf_17 (by decide) ?_
    refine lv_icmp_ge (tgt := 26) hx hb dX4_kindOf_18 (by decide) (fun c_2 => ?_) (fun c_2 => ?_)
    · have hvr : vR S (sPl S j) := pl_row (hW.1 j) c_1 c_2
      refine lv_aload_n hx hb dX4_kindOf_26 rfl (lv_at hl 1 rfl) ?_
      refine wr_get (ci := 3) (C := RX4) (T := TX4) (N := 11) (v := .ref (mK M)) hx hb hts in_X4 hown hT hI hR.1 rfl 3 (by decide) (hts (.fieldLink RX4 13 "CopyRowsModel" "kinds" "[I") (by decide +kernel)) rfl dX4_kindOf_27 ?_
      refine lv_iload_n hx hb dX4_kindOf_30 rfl (lv_at hl 0 rfl) ?_
      refine W.eq (g2 := F0 m 31 ls [.int (nI (ix (sPl S j))), .ref (mK M)]) (by rw [nI_ix hvr.1]) ?_
      refine wr_ialdN (t := ix (sPl S j)) (n := 520) (f := sKd S) hx hb hT hI hR.2.2.1 (by have h9 := hvr.2; have h8 := hW.2.2.2; omega) (by omega) dX4_kindOf_31 ?_
      refine W.eq (g2 := F0 m 32 ls [.int (kdv S (sPl S j))]) (by rw [kdv_r hvr]) ?_
      exact re_i hx hb hr hlocks hT hA hS hI (⟨rfl, by rw [kp_ne c_1]⟩) (Nat.le_of_ble_eq_true rfl) (Nat.le_of_ble_eq_true rfl) dX4_kindOf_32
    · refine lv_bipush (v := 6) hx hb dX4_kindOf_21 (by decide) ?_
      refine lv_goto (tgt := 32) hx hb dX4_kindOf_23 (by decide) ?_
      exact re_i hx hb hr hlocks hT hA hS hI (⟨rfl, by rw [kp_ne c_1, (pl_lump (hW.1 j) c_1 c_2).1]⟩) (Nat.le_of_ble_eq_true rfl) (Nat.le_of_ble_eq_true rfl) dX4_kindOf_32
  · refine lv_iconst (v := -1) hx hb dX4_kindOf_12 (by decide) ?_
    refine lv_goto (tgt := 32) hx hb dX4_kindOf_13 (by decide) ?_
    exact re_i hx hb hr hlocks hT hA hS hI (⟨rfl, by rw [show kp S (sPl S j) = -1 from if_pos c_1]⟩) (Nat.le_of_ble_eq_true rfl) (Nat.le_of_ble_eq_true rfl) dX4_kindOf_32

set_option maxHeartbeats 4000000 in
set_option maxRecDepth 100000 in
theorem cc_X4_isRow (l : Launch) (E : En) (A : Nat → Prop) (w : Wd) {S : Sx} {M : Md} {tt : Nat → Int32} {j : Nat} (hj : j < 12) (hW : Wf S) (hR : Rm E S M tt w) : Ct l yX4_isRow wsX4_isRow ({ frames := 0, cells := 0, slots := 0, locals := 0 } : Room) E A w [.ref (mH M), .int (nI j)] (fun r w' => w = w' ∧ (((vR S (sPl S j)) ∧ r = some (.int 1)) ∨ (¬ (vR S (sPl S j)) ∧ r = some (.int 0)))) 0 0 := by
  refine Met.ofW (cc := cX4_isRow) (maxL := 2) (ret := (some .boolean)) (by decide) rfl ?_
  intro pp0 ee0 s m args below meth cc0 s₁ B hml hv
  obtain ⟨rfl, hT, hI, hA⟩ := hv
  have hx := B.exec
  have hb := B.bytes
  have hr := B.returns
  have hts := atoms_spec (ws := wsX4_isRow) B.pre
  have hown : s.vm.findClass RX4 = some m.cls := findClass_of_methodNamed B.named
  have hlocks := B.notSynchronized
  have in_X4 : ∀ w ∈ wsX40, w ∈ wsX4_isRow := by decide +kernel
  have hS : va_S A s.heap s.heap [] := va_S.rf
  have hl := lv_entry ([.ref (mH M), .int (nI j)]) (n := 2) (Nat.le_of_ble_eq_true rfl)
  rw [lg_entry_eq]
  generalize (lg_sl ([.ref (mH M), .int (nI j)]) ++ List.replicate (2 - (lg_sl ([.ref (mH M), .int (nI j)])).length) Slot.unset).toArray = ls at hl ⊢
  have hl : lv_has ls 2 [(0, .ref (mH M)), (1, .int (nI j))] := hl
  refine lv_aload_n hx hb dX4_isRow_0 rfl (lv_at hl 0 rfl) ?_
  refine wr_get (ci := 3) (C := RX4) (T := TX4) (N := 11) (v := .ref (mP M)) hx hb hts in_X4 hown hT hI hR.1 rfl 1 (by decide) (hts (.fieldLink RX4 7 "CopyRowsModel" "places" "[I") (by decide +kernel)) rfl dX4_isRow_1 ?_
  refine lv_iload_n hx hb dX4_isRow_4 rfl (lv_at hl 1 rfl) ?_
  refine wr_ialdN (t := j) (n := 12) (f := plF S) hx hb hT hI hR.2.1 (by omega) (by omega) dX4_isRow_5 ?_
  refine W.eq (g2 := F0 m 6 ls [.int (sPl S j)]) (by rw [plF_at (by omega)]) ?_
  refine lv_if_lt (tgt := 13) hx hb dX4_isRow_6 (by decide) (fun c_1 => ?_) (fun c_1 => ?_)
  · refine lv_iconst (v := 0) hx hb dX4_isRow_13 (by decide) ?_
    exact re_z hx hb hr hlocks hT hA hS hI (by decide) (⟨rfl, Or.inr ⟨fun q => q.1 c_1, rfl⟩⟩) (Nat.le_of_ble_eq_true rfl) (Nat.le_of_ble_eq_true rfl) dX4_isRow_14
  · refine lv_iconst (v := 1) hx hb dX4_isRow_9 (by decide) ?_
    refine lv_goto (tgt := 14) hx hb dX4_isRow_10 (by decide) ?_
    exact re_z hx hb hr hlocks hT hA hS hI (by decide) (⟨rfl, Or.inl ⟨(by rcases hW.1 j with q | q; exact absurd (by rw [q]; decide) c_1; exact q.elim id (fun q => absurd (vL_neg q) c_1)), rfl⟩⟩) (Nat.le_of_ble_eq_true rfl) (Nat.le_of_ble_eq_true rfl) dX4_isRow_14

set_option maxHeartbeats 4000000 in
set_option maxRecDepth 100000 in
theorem cc_X4_wantsRow (l : Launch) (E : En) (A : Nat → Prop) (w : Wd) {S : Sx} {M : Md} {tt : Nat → Int32} {j : Nat} (hj : j < 12) (hW : Wf S) (hR : Rm E S M tt w) : Ct l yX4_wantsRow wsX4_wantsRow ({ frames := 0, cells := 0, slots := 0, locals := 0 } : Room) E A w [.ref (mH M), .int (nI j)] (fun r w' => w = w' ∧ ((sPl S j = -1 ∧ r = some (.int 1)) ∨ (¬ sPl S j = -1 ∧ kdv S (sPl S j) = 6 ∧ r = some (.int 5)) ∨ (¬ sPl S j = -1 ∧ vR S (sPl S j) ∧ r = some (.int 0)))) 0 0 := by
  refine Met.ofW (cc := cX4_wantsRow) (maxL := 2) (ret := (some .int)) (by decide) rfl ?_
  intro pp0 ee0 s m args below meth cc0 s₁ B hml hv
  obtain ⟨rfl, hT, hI, hA⟩ := hv
  have hx := B.exec
  have hb := B.bytes
  have hr := B.returns
  have hts := atoms_spec (ws := wsX4_wantsRow) B.pre
  have hown : s.vm.findClass RX4 = some m.cls := findClass_of_methodNamed B.named
  have hlocks := B.notSynchronized
  have in_X4 : ∀ w ∈ wsX40, w ∈ wsX4_wantsRow := by decide +kernel
  have hS : va_S A s.heap s.heap [] := va_S.rf
  have hl := lv_entry ([.ref (mH M), .int (nI j)]) (n := 2) (Nat.le_of_ble_eq_true rfl)
  rw [lg_entry_eq]
  generalize (lg_sl ([.ref (mH M), .int (nI j)]) ++ List.replicate (2 - (lg_sl ([.ref (mH M), .int (nI j)])).length) Slot.unset).toArray = ls at hl ⊢
  have hl : lv_has ls 2 [(0, .ref (mH M)), (1, .int (nI j))] := hl
  refine lv_aload_n hx hb dX4_wantsRow_0 rfl (lv_at hl 0 rfl) ?_
  refine wr_get (ci := 3) (C := RX4) (T := TX4) (N := 11) (v := .ref (mP M)) hx hb hts in_X4 hown hT hI hR.1 rfl 1 (by decide) (hts (.fieldLink RX4 7 "CopyRowsModel" "places" "[I") (by decide +kernel)) rfl dX4_wantsRow_1 ?_
  refine lv_iload_n hx hb dX4_wantsRow_4 rfl (lv_at hl 1 rfl) ?_
  refine wr_ialdN (t := j) (n := 12) (f := plF S) hx hb hT hI hR.2.1 (by omega) (by omega) dX4_wantsRow_5 ?_
  refine W.eq (g2 := F0 m 6 ls [.int (sPl S j)]) (by rw [plF_at (by omega)]) ?_
  refine lv_iconst (v := -1) hx hb dX4_wantsRow_6 (by decide) ?_
  refine lv_icmp_ne (tgt := 14) hx hb dX4_wantsRow_7 (by decide) (fun c_1 => ?_) (fun c_1 => ?_)
  · refine lv_aload_n hx hb dX4_wantsRow_14 rfl (lv_at hl 0 rfl) ?_
    refine wr_get (ci := 3) (C := RX4) (T := TX4) (N := 11) (v := .ref (mP M)) hx hb hts in_X4 hown hT hI hR.1 rfl 1 (by decide) (hts (.fieldLink RX4 7 "CopyRowsModel" "places" "[I") (by decide +kernel)) rfl dX4_wantsRow_15 ?_
    refine lv_iload_n hx hb dX4_wantsRow_18 rfl (lv_at hl 1 rfl) ?_
    refine wr_ialdN (t := j) (n := 12) (f := plF S) hx hb hT hI hR.2.1 (by omega) (by omega) dX4_wantsRow_19 ?_
    refine W.eq (g2 := F0 m 20 ls [.int (sPl S j)]) (by rw [plF_at (by omega)]) ?_
    refine lv_iconst (v := -1) hx hb dX4_wantsRow_20 (by decide) ?_
    refine lv_icmp_ge (tgt := 28) hx hb dX4_wantsRow_21 (by decide) (fun c_2 => ?_) (fun c_2 => ?_)
    · refine lv_iconst (v := 0) hx hb dX4_wantsRow_28 (by decide) ?_
      exact re_i hx hb hr hlocks hT hA hS hI (⟨rfl, Or.inr (Or.inr ⟨c_1, pl_row (hW.1 j) c_1 c_2, rfl⟩)⟩) (Nat.le_of_ble_eq_true rfl) (Nat.le_of_ble_eq_true rfl) dX4_wantsRow_29
    · refine lv_iconst (v := 5) hx hb dX4_wantsRow_24 (by decide) ?_
      refine lv_goto (tgt := 29) hx hb dX4_wantsRow_25 (by decide) ?_
      exact re_i hx hb hr hlocks hT hA hS hI (⟨rfl, Or.inr (Or.inl ⟨c_1, (pl_lump (hW.1 j) c_1 c_2).1, rfl⟩)⟩) (Nat.le_of_ble_eq_true rfl) (Nat.le_of_ble_eq_true rfl) dX4_wantsRow_29
  · refine lv_iconst (v := 1) hx hb dX4_wantsRow_10 (by decide) ?_
    refine lv_goto (tgt := 29) hx hb dX4_wantsRow_11 (by decide) ?_
    exact re_i hx hb hr hlocks hT hA hS hI (⟨rfl, Or.inl ⟨c_1, rfl⟩⟩) (Nat.le_of_ble_eq_true rfl) (Nat.le_of_ble_eq_true rfl) dX4_wantsRow_29

set_option maxHeartbeats 4000000 in
set_option maxRecDepth 100000 in
theorem cc_X4_lengthOf (l : Launch) (E : En) (A : Nat → Prop) (w : Wd) {S : Sx} {M : Md} {tt : Nat → Int32} {j : Nat} (hj : j < 12) (hW : Wf S) (hR : Rm E S M tt w) (hvr : vR S (sPl S j)) : Ct l yX4_lengthOf wsX4_lengthOf ({ frames := 0, cells := 0, slots := 0, locals := 0 } : Room) E A w [.ref (mH M), .int (nI j)] (fun r w' => w = w' ∧ r = some (.int (nI (lnv S (sPl S j))))) 0 0 := by
  refine Met.ofW (cc := cX4_lengthOf) (maxL := 2) (ret := (some .int)) (by decide) rfl ?_
  intro pp0 ee0 s m args below meth cc0 s₁ B hml hv
  obtain ⟨rfl, hT, hI, hA⟩ := hv
  have hx := B.exec
  have hb := B.bytes
  have hr := B.returns
  have hts := atoms_spec (ws := wsX4_lengthOf) B.pre
  have hown : s.vm.findClass RX4 = some m.cls := findClass_of_methodNamed B.named
  have hlocks := B.notSynchronized
  have in_X4 : ∀ w ∈ wsX40, w ∈ wsX4_lengthOf := by decide +kernel
  have hS : va_S A s.heap s.heap [] := va_S.rf
  have hl := lv_entry ([.ref (mH M), .int (nI j)]) (n := 2) (Nat.le_of_ble_eq_true rfl)
  rw [lg_entry_eq]
  generalize (lg_sl ([.ref (mH M), .int (nI j)]) ++ List.replicate (2 - (lg_sl ([.ref (mH M), .int (nI j)])).length) Slot.unset).toArray = ls at hl ⊢
  have hl : lv_has ls 2 [(0, .ref (mH M)), (1, .int (nI j))] := hl
  refine lv_aload_n hx hb dX4_lengthOf_0 rfl (lv_at hl 0 rfl) ?_
  refine wr_get (ci := 3) (C := RX4) (T := TX4) (N := 11) (v := .ref (mL M)) hx hb hts in_X4 hown hT hI hR.1 rfl 4 (by decide) (hts (.fieldLink RX4 16 "CopyRowsModel" "lengths" "[I") (by decide +kernel)) rfl dX4_lengthOf_1 ?_
  refine lv_aload_n hx hb dX4_lengthOf_4 rfl (lv_at hl 0 rfl) ?_
  refine wr_get (ci := 3) (C := RX4) (T := TX4) (N := 11) (v := .ref (mP M)) hx hb hts in_X4 hown hT hI hR.1 rfl 1 (by decide) (hts (.fieldLink RX4 7 "CopyRowsModel" "places" "[I") (by decide +kernel)) rfl dX4_lengthOf_5 ?_
  refine lv_iload_n hx hb dX4_lengthOf_8 rfl (lv_at hl 1 rfl) ?_
  refine wr_ialdN (t := j) (n := 12) (f := plF S) hx hb hT hI hR.2.1 (by omega) (by omega) dX4_lengthOf_9 ?_
  refine W.eq (g2 := F0 m 10 ls [.int (sPl S j), .ref (mL M)]) (by rw [plF_at (by omega)]) ?_
  refine W.eq (g2 := F0 m 10 ls [.int (nI (ix (sPl S j))), .ref (mL M)]) (by rw [nI_ix hvr.1]) ?_
  refine wr_ialdN (t := ix (sPl S j)) (n := 520) (f := lnF S) hx hb hT hI hR.2.2.2.1 (by have h9 := hvr.2; have h8 := hW.2.2.2; omega) (by omega) dX4_lengthOf_10 ?_
  refine W.eq (g2 := F0 m 11 ls [.int (nI (lnv S (sPl S j)))]) (by rw [lnv_r hvr]; rfl) ?_
  exact re_i hx hb hr hlocks hT hA hS hI (⟨rfl, rfl⟩) (Nat.le_of_ble_eq_true rfl) (Nat.le_of_ble_eq_true rfl) dX4_lengthOf_11

set_option maxHeartbeats 4000000 in
set_option maxRecDepth 100000 in
theorem cc_X4_get (l : Launch) (E : En) (A : Nat → Prop) (w : Wd) {S : Sx} {M : Md} {tt : Nat → Int32} {r9 k : Nat} (hr9 : r9 < 520) (hk9 : k < 40) (hR : Rm E S M tt w) : Ct l yX4_get wsX4_get ({ frames := 0, cells := 0, slots := 0, locals := 0 } : Room) E A w [.ref (mH M), .int (nI r9), .int (nI k)] (fun r w' => w = w' ∧ r = some (.int (sIt S r9 k))) 0 0 := by
  refine Met.ofW (cc := cX4_get) (maxL := 3) (ret := (some .int)) (by decide) rfl ?_
  intro pp0 ee0 s m args below meth cc0 s₁ B hml hv
  obtain ⟨rfl, hT, hI, hA⟩ := hv
  have hx := B.exec
  have hb := B.bytes
  have hr := B.returns
  have hts := atoms_spec (ws := wsX4_get) B.pre
  have hown : s.vm.findClass RX4 = some m.cls := findClass_of_methodNamed B.named
  have hlocks := B.notSynchronized
  have in_X4 : ∀ w ∈ wsX40, w ∈ wsX4_get := by decide +kernel
  have hS : va_S A s.heap s.heap [] := va_S.rf
  have hl := lv_entry ([.ref (mH M), .int (nI r9), .int (nI k)]) (n := 3) (Nat.le_of_ble_eq_true rfl)
  rw [lg_entry_eq]
  generalize (lg_sl ([.ref (mH M), .int (nI r9), .int (nI k)]) ++ List.replicate (3 - (lg_sl ([.ref (mH M), .int (nI r9), .int (nI k)])).length) Slot.unset).toArray = ls at hl ⊢
  have hl : lv_has ls 3 [(0, .ref (mH M)), (1, .int (nI r9)), (2, .int (nI k))] := hl
  refine lv_aload_n hx hb dX4_get_0 rfl (lv_at hl 0 rfl) ?_
  refine wr_get (ci := 3) (C := RX4) (T := TX4) (N := 11) (v := .ref (mI M)) hx hb hts in_X4 hown hT hI hR.1 rfl 5 (by decide) (hts (.fieldLink RX4 19 "CopyRowsModel" "items" "[I") (by decide +kernel)) rfl dX4_get_1 ?_
  refine lv_bipush (v := 40) hx hb dX4_get_4 (by decide) ?_
  refine lv_iload_n hx hb dX4_get_6 rfl (lv_at hl 1 rfl) ?_
  refine lv_imul hx hb dX4_get_7 ?_
  refine W.eq (g2 := F0 m 8 ls [.int (nI (40 * r9)), .ref (mI M)]) (by rw [show (40 : Int32) * nI r9 = nI (40 * r9) from pk_mul 40 r9]) ?_
  refine lv_iload_n hx hb dX4_get_8 rfl (lv_at hl 2 rfl) ?_
  refine lv_iadd hx hb dX4_get_9 ?_
  refine W.eq (g2 := F0 m 10 ls [.int (nI ((40 * r9) + k)), .ref (mI M)]) (by rw [show (nI (40 * r9) : Int32) + nI k = nI ((40 * r9) + k) from nI_add (40 * r9) k]) ?_
  refine wr_ialdN (t := 40 * r9 + k) (n := 20800) (f := itF S) hx hb hT hI hR.2.2.2.2.1 (by omega) (by omega) dX4_get_10 ?_
  refine W.eq (g2 := F0 m 11 ls [.int (sIt S r9 k)]) (by rw [itF_at hr9 hk9]) ?_
  exact re_i hx hb hr hlocks hT hA hS hI (⟨rfl, rfl⟩) (Nat.le_of_ble_eq_true rfl) (Nat.le_of_ble_eq_true rfl) dX4_get_11

set_option maxHeartbeats 4000000 in
set_option maxRecDepth 100000 in
theorem cc_X4_put (l : Launch) (E : En) (A : Nat → Prop) (w : Wd) {S : Sx} {M : Md} {tt : Nat → Int32} {r9 k : Nat} (hr9 : r9 < 520) (hk9 : k < 40) (x : Int32) (hR : Rm E S M tt w) : Ct l yX4_put wsX4_put ({ frames := 0, cells := 0, slots := 0, locals := 0 } : Room) E A w [.ref (mH M), .int (nI r9), .int (nI k), .int x] (fun r w' => r = none ∧ Rm E (uRow S r9 (upd (sIt S r9) k x)) M tt w') 0 0 := by
  refine Met.ofW (cc := cX4_put) (maxL := 4) (ret := none) (by decide) rfl ?_
  intro pp0 ee0 s m args below meth cc0 s₁ B hml hv
  obtain ⟨rfl, hT, hI, hA⟩ := hv
  have hx := B.exec
  have hb := B.bytes
  have hr := B.returns
  have hts := atoms_spec (ws := wsX4_put) B.pre
  have hown : s.vm.findClass RX4 = some m.cls := findClass_of_methodNamed B.named
  have hlocks := B.notSynchronized
  have in_X4 : ∀ w ∈ wsX40, w ∈ wsX4_put := by decide +kernel
  have hS : va_S A s.heap s.heap [] := va_S.rf
  have hl := lv_entry ([.ref (mH M), .int (nI r9), .int (nI k), .int x]) (n := 4) (Nat.le_of_ble_eq_true rfl)
  rw [lg_entry_eq]
  generalize (lg_sl ([.ref (mH M), .int (nI r9), .int (nI k), .int x]) ++ List.replicate (4 - (lg_sl ([.ref (mH M), .int (nI r9), .int (nI k), .int x])).length) Slot.unset).toArray = ls at hl ⊢
  have hl : lv_has ls 4 [(0, .ref (mH M)), (1, .int (nI r9)), (2, .int (nI k)), (3, .int x)] := hl
  refine lv_aload_n hx hb dX4_put_0 rfl (lv_at hl 0 rfl) ?_
  refine wr_get (ci := 3) (C := RX4) (T := TX4) (N := 11) (v := .ref (mI M)) hx hb hts in_X4 hown hT hI hR.1 rfl 5 (by decide) (hts (.fieldLink RX4 19 "CopyRowsModel" "items" "[I") (by decide +kernel)) rfl dX4_put_1 ?_
  refine lv_bipush (v := 40) hx hb dX4_put_4 (by decide) ?_
  refine lv_iload_n hx hb dX4_put_6 rfl (lv_at hl 1 rfl) ?_
  refine lv_imul hx hb dX4_put_7 ?_
  refine W.eq (g2 := F0 m 8 ls [.int (nI (40 * r9)), .ref (mI M)]) (by rw [show (40 : Int32) * nI r9 = nI (40 * r9) from pk_mul 40 r9]) ?_
  refine lv_iload_n hx hb dX4_put_8 rfl (lv_at hl 2 rfl) ?_
  refine lv_iadd hx hb dX4_put_9 ?_
  refine W.eq (g2 := F0 m 10 ls [.int (nI ((40 * r9) + k)), .ref (mI M)]) (by rw [show (nI (40 * r9) : Int32) + nI k = nI ((40 * r9) + k) from nI_add (40 * r9) k]) ?_
  refine lv_iload_n hx hb dX4_put_10 rfl (lv_at hl 3 rfl) ?_
  refine wr_iastN (t := 40 * r9 + k) (n := 20800) (f := itF S) hx hb hT hI hS hR.2.2.2.2.1 (by omega) (by omega) dX4_put_11 (fun H locs hI hS => ?_)
  have hR := hR.it hr9 hk9 x
  exact re_v hx hb hr hlocks hT hA hS hI (⟨rfl, hR⟩) (Nat.le_of_ble_eq_true rfl) (Nat.le_of_ble_eq_true rfl) dX4_put_12

set_option maxHeartbeats 4000000 in
set_option maxRecDepth 100000 in
theorem cc_X4_low8 (l : Launch) (E : En) (A : Nat → Prop) (w : Wd) (x : Int32) : Ct l yX4_low8 wsX4_low8 ({ frames := 0, cells := 0, slots := 0, locals := 0 } : Room) E A w [.int x] (fun r w' => w = w' ∧ r = some (.int x.toInt8.toInt32)) 0 0 := by
  refine Met.ofW (cc := cX4_low8) (maxL := 2) (ret := (some .int)) (by decide) rfl ?_
  intro pp0 ee0 s m args below meth cc0 s₁ B hml hv
  obtain ⟨rfl, hT, hI, hA⟩ := hv
  have hx := B.exec
  have hb := B.bytes
  have hr := B.returns
  have hts := atoms_spec (ws := wsX4_low8) B.pre
  have hown : s.vm.findClass RX4 = some m.cls := findClass_of_methodNamed B.named
  have hlocks := B.notSynchronized
  have hS : va_S A s.heap s.heap [] := va_S.rf
  have hl := lv_entry ([.int x]) (n := 2) (Nat.le_of_ble_eq_true rfl)
  rw [lg_entry_eq]
  generalize (lg_sl ([.int x]) ++ List.replicate (2 - (lg_sl ([.int x])).length) Slot.unset).toArray = ls at hl ⊢
  have hl : lv_has ls 2 [(0, .int x)] := hl
  refine lv_iload_n hx hb dX4_low8_0 rfl (lv_at hl 0 rfl) ?_
  refine lv_sipush (v := 255) hx hb dX4_low8_1 (by decide) ?_
  refine lv_iand hx hb dX4_low8_4 ?_
  refine lv_istore_n (lv' := [(1, .int (x &&& 255)), (0, .int x)]) hx hb dX4_low8_5 rfl hl (by decide) rfl (fun ls hl => ?_)
  refine lv_iload_n hx hb dX4_low8_6 rfl (lv_at hl 0 rfl) ?_
  refine lv_bipush (v := 127) hx hb dX4_low8_7 (by decide) ?_
  refine lv_icmp_le (tgt := 20) hx hb dX4_low8_9 (by decide) (fun c_1 => ?_) (fun c_1 => ?_)
  · refine lv_iload_n hx hb dX4_low8_20 rfl (lv_at hl 0 rfl) ?_
    exact re_i hx hb hr hlocks hT hA hS hI (⟨rfl, by rw [← low8_eq, if_pos c_1]⟩) (Nat.le_of_ble_eq_true rfl) (Nat.le_of_ble_eq_true rfl) dX4_low8_21
  · refine lv_iload_n hx hb dX4_low8_12 rfl (lv_at hl 0 rfl) ?_
    refine lv_sipush (v := 256) hx hb dX4_low8_13 (by decide) ?_
    refine lv_isub hx hb dX4_low8_16 ?_
    refine lv_goto (tgt := 21) hx hb dX4_low8_17 (by decide) ?_
    exact re_i hx hb hr hlocks hT hA hS hI (⟨rfl, by rw [← low8_eq, if_neg c_1]⟩) (Nat.le_of_ble_eq_true rfl) (Nat.le_of_ble_eq_true rfl) dX4_low8_21

set_option maxHeartbeats 4000000 in
set_option maxRecDepth 100000 in
theorem cc_X4_fitsClass (l : Launch) (E : En) (A : Nat → Prop) (w : Wd) (c9 k : Int32) : Ct l yX4_fitsClass wsX4_fitsClass ({ frames := 0, cells := 0, slots := 0, locals := 0 } : Room) E A w [.int c9, .int k] (fun r w' => w = w' ∧ (((c9 = -1 ∨ k = 3 ∨ c9 = 1 ∧ k = 4 ∨ c9 = 2 ∧ k = 5) ∧ r = some (.int 1)) ∨ (¬ (c9 = -1 ∨ k = 3 ∨ c9 = 1 ∧ k = 4 ∨ c9 = 2 ∧ k = 5) ∧ r = some (.int 0)))) 0 0 := by
  refine Met.ofW (cc := cX4_fitsClass) (maxL := 2) (ret := (some .boolean)) (by decide) rfl ?_
  intro pp0 ee0 s m args below meth cc0 s₁ B hml hv
  obtain ⟨rfl, hT, hI, hA⟩ := hv
  have hx := B.exec
  have hb := B.bytes
  have hr := B.returns
  have hts := atoms_spec (ws := wsX4_fitsClass) B.pre
  have hown : s.vm.findClass RX4 = some m.cls := findClass_of_methodNamed B.named
  have hlocks := B.notSynchronized
  have hS : va_S A s.heap s.heap [] := va_S.rf
  have hl := lv_entry ([.int c9, .int k]) (n := 2) (Nat.le_of_ble_eq_true rfl)
  rw [lg_entry_eq]
  generalize (lg_sl ([.int c9, .int k]) ++ List.replicate (2 - (lg_sl ([.int c9, .int k])).length) Slot.unset).toArray = ls at hl ⊢
  have hl : lv_has ls 2 [(0, .int c9), (1, .int k)] := hl
  refine lv_iload_n hx hb dX4_fitsClass_0 rfl (lv_at hl 0 rfl) ?_
  refine lv_iconst (v := -1) hx hb dX4_fitsClass_1 (by decide) ?_
  refine lv_icmp_eq (tgt := 30) hx hb dX4_fitsClass_2 (by decide) (fun c_1 => ?_) (fun c_1 => ?_)
  · refine lv_iconst (v := 1) hx hb dX4_fitsClass_30 (by decide) ?_
    refine lv_goto (tgt := 35) hx hb dX4_fitsClass_31 (by decide) ?_
    exact re_z hx hb hr hlocks hT hA hS hI (by decide) (by refine ⟨rfl, Or.inl ⟨?_, rfl⟩⟩; grind) (Nat.le_of_ble_eq_true rfl) (Nat.le_of_ble_eq_true rfl) dX4_fitsClass_35
  · refine lv_iload_n hx hb dX4_fitsClass_5 rfl (lv_at hl 1 rfl) ?_
    refine lv_iconst (v := 3) hx hb dX4_fitsClass_6 (by decide) ?_
    refine lv_icmp_eq (tgt := 30) hx hb dX4_fitsClass_7 (by decide) (fun c_2 => ?_) (fun c_2 => ?_)
    · refine lv_iconst (v := 1) hx hb dX4_fitsClass_30 (by decide) ?_
      refine lv_goto (tgt := 35) hx hb dX4_fitsClass_31 (by decide) ?_
      exact re_z hx hb hr hlocks hT hA hS hI (by decide) (by refine ⟨rfl, Or.inl ⟨?_, rfl⟩⟩; grind) (Nat.le_of_ble_eq_true rfl) (Nat.le_of_ble_eq_true rfl) dX4_fitsClass_35
    · refine lv_iload_n hx hb dX4_fitsClass_10 rfl (lv_at hl 0 rfl) ?_
      refine lv_iconst (v := 1) hx hb dX4_fitsClass_11 (by decide) ?_
      refine lv_icmp_ne (tgt := 20) hx hb dX4_fitsClass_12 (by decide) (fun c_3 => ?_) (fun c_3 => ?_)
      · refine lv_iload_n hx hb dX4_fitsClass_20 rfl (lv_at hl 0 rfl) ?_
        refine lv_iconst (v := 2) hx hb dX4_fitsClass_21 (by decide) ?_
        refine lv_icmp_ne (tgt := 34) hx hb dX4_fitsClass_22 (by decide) (fun c_4 => ?_) (fun c_4 => ?_)
        · refine lv_iconst (v := 0) hx hb dX4_fitsClass_34 (by decide) ?_
          exact re_z hx hb hr hlocks hT hA hS hI (by decide) (by refine ⟨rfl, Or.inr ⟨?_, rfl⟩⟩; grind) (Nat.le_of_ble_eq_true rfl) (Nat.le_of_ble_eq_true rfl) dX4_fitsClass_35
        · refine lv_iload_n hx hb dX4_fitsClass_25 rfl (lv_at hl 1 rfl) ?_
          refine lv_iconst (v := 5) hx hb dX4_fitsClass_26 (by decide) ?_
          refine lv_icmp_ne (tgt := 34) hx hb dX4_fitsClass_27 (by decide) (fun c_5 => ?_) (fun c_5 => ?_)
          · refine lv_iconst (v := 0) hx hb dX4_fitsClass_34 (by decide) ?_
            exact re_z hx hb hr hlocks hT hA hS hI (by decide) (by refine ⟨rfl, Or.inr ⟨?_, rfl⟩⟩; grind) (Nat.le_of_ble_eq_true rfl) (Nat.le_of_ble_eq_true rfl) dX4_fitsClass_35
          · refine lv_iconst (v := 1) hx hb dX4_fitsClass_30 (by decide) ?_
            refine lv_goto (tgt := 35) hx hb dX4_fitsClass_31 (by decide) ?_
            exact re_z hx hb hr hlocks hT hA hS hI (by decide) (by refine ⟨rfl, Or.inl ⟨?_, rfl⟩⟩; grind) (Nat.le_of_ble_eq_true rfl) (Nat.le_of_ble_eq_true rfl) dX4_fitsClass_35
      · refine lv_iload_n hx hb dX4_fitsClass_15 rfl (lv_at hl 1 rfl) ?_
        refine lv_iconst (v := 4) hx hb dX4_fitsClass_16 (by decide) ?_
        refine lv_icmp_eq (tgt := 30) hx hb dX4_fitsClass_17 (by decide) (fun c_6 => ?_) (fun c_6 => ?_)
        · refine lv_iconst (v := 1) hx hb dX4_fitsClass_30 (by decide) ?_
          refine lv_goto (tgt := 35) hx hb dX4_fitsClass_31 (by decide) ?_
          exact re_z hx hb hr hlocks hT hA hS hI (by decide) (by refine ⟨rfl, Or.inl ⟨?_, rfl⟩⟩; grind) (Nat.le_of_ble_eq_true rfl) (Nat.le_of_ble_eq_true rfl) dX4_fitsClass_35
        · refine lv_iload_n hx hb dX4_fitsClass_20 rfl (lv_at hl 0 rfl) ?_
          refine lv_iconst (v := 2) hx hb dX4_fitsClass_21 (by decide) ?_
          refine lv_icmp_ne (tgt := 34) hx hb dX4_fitsClass_22 (by decide) (fun c_7 => ?_) (fun c_7 => ?_)
          · refine lv_iconst (v := 0) hx hb dX4_fitsClass_34 (by decide) ?_
            exact re_z hx hb hr hlocks hT hA hS hI (by decide) (by refine ⟨rfl, Or.inr ⟨?_, rfl⟩⟩; grind) (Nat.le_of_ble_eq_true rfl) (Nat.le_of_ble_eq_true rfl) dX4_fitsClass_35
          · refine lv_iload_n hx hb dX4_fitsClass_25 rfl (lv_at hl 1 rfl) ?_
            refine lv_iconst (v := 5) hx hb dX4_fitsClass_26 (by decide) ?_
            refine lv_icmp_ne (tgt := 34) hx hb dX4_fitsClass_27 (by decide) (fun c_8 => ?_) (fun c_8 => ?_)
            · refine lv_iconst (v := 0) hx hb dX4_fitsClass_34 (by decide) ?_
              exact re_z hx hb hr hlocks hT hA hS hI (by decide) (by refine ⟨rfl, Or.inr ⟨?_, rfl⟩⟩; grind) (Nat.le_of_ble_eq_true rfl) (Nat.le_of_ble_eq_true rfl) dX4_fitsClass_35
            · refine lv_iconst (v := 1) hx hb dX4_fitsClass_30 (by decide) ?_
              refine lv_goto (tgt := 35) hx hb dX4_fitsClass_31 (by decide) ?_
              exact re_z hx hb hr hlocks hT hA hS hI (by decide) (by refine ⟨rfl, Or.inl ⟨?_, rfl⟩⟩; grind) (Nat.le_of_ble_eq_true rfl) (Nat.le_of_ble_eq_true rfl) dX4_fitsClass_35
