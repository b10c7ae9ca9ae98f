abbrev Sz : Sx := (0, fun _ => -1, 0, fun _ => 0, fun _ => 0, fun _ _ => 0, 0, fun _ => 0, fun _ => 0, 0)

set_option maxHeartbeats 4000000 in
set_option maxRecDepth 100000 in
theorem cc_X3_sumOfTable (l : Launch) (E : En) (A : Nat → Prop) (w : Wd) {S : Sx} {D : Ad} {v : Int32} (hW : Wf S) (hR : Rp E (uCod S 0) D w) (hrv : vR S v) (hkv : kdv S v = 2) : Ct l yX3_sumOfTable wsX3_sumOfTable ({ frames := 1, cells := 0, slots := 0, locals := 22 } : Room) E A w [.ref (aH D), .ref (aR D v)] (fun r w' => r = some (.int (smT S (itv S v) (lnv S v) 0 0).1) ∧ Rp E (smT S (itv S v) (lnv S v) 0 0).2 D w') 0 0 := by
  refine Met.ofW (cc := cX3_sumOfTable) (maxL := 6) (ret := (some .int)) (by decide) rfl ?_
  intro pp0 ee0 s m args below meth cc0 s₁ B hml hv
  obtain ⟨rfl, hT, hI, hA⟩ := hv
  have hx := B.exec
  have hb := B.bytes
  have hr := B.returns
  have hts := atoms_spec (ws := wsX3_sumOfTable) B.pre
  have hown : s.vm.findClass RX3 = some m.cls := findClass_of_methodNamed B.named
  have hlocks := B.notSynchronized
  have in_X1 : ∀ w ∈ wsX10, w ∈ wsX3_sumOfTable := by decide +kernel
  have hS : va_S A s.heap s.heap [] := va_S.rf
  have hl := lv_entry ([.ref (aH D), .ref (aR D v)]) (n := 6) (Nat.le_of_ble_eq_true rfl)
  rw [lg_entry_eq]
  generalize (lg_sl ([.ref (aH D), .ref (aR D v)]) ++ List.replicate (6 - (lg_sl ([.ref (aH D), .ref (aR D v)])).length) Slot.unset).toArray = ls at hl ⊢
  have hl : lv_has ls 6 [(0, .ref (aH D)), (1, .ref (aR D v))] := hl
  have hln := hW.ln (Or.inl hrv)
  have hkn : ¬ isN (kdv S v) := by rw [hkv]; decide
  refine lv_iconst (v := 0) hx hb dX3_sumOfTable_0 (by decide) ?_
  refine lv_istore_n (lv' := [(2, .int 0), (0, .ref (aH D)), (1, .ref (aR D v))]) hx hb dX3_sumOfTable_1 rfl hl (by decide) rfl (fun ls hl => ?_)
  refine lv_iconst (v := 0) hx hb dX3_sumOfTable_2 (by decide) ?_
  refine lv_istore_n (lv' := [(3, .int 0), (2, .int 0), (0, .ref (aH D)), (1, .ref (aR D v))]) hx hb dX3_sumOfTable_3 rfl hl (by decide) rfl (fun ls hl => ?_)
  refine lp_w (ι := Nat × Int32) (fun q9 => lnv S v - q9.1) (fun q9 H locs ls => (q9.1 ≤ lnv S v ∧ smT S (itv S v) (lnv S v) 0 0 = smT S (itv S v) (lnv S v - q9.1) q9.1 q9.2) ∧ Hv E A w H ∧ va_S A s.heap H locs ∧ lv_has ls 6 [(0, .ref (aH D)), (1, .ref (aR D v)), (2, .int q9.2), (3, .int (nI q9.1))]) ?_ (0, 0) _ _ _ ⟨⟨Nat.zero_le _, rfl⟩, hI, hS, lv_sub hl [2, 3, 1, 0] rfl⟩
  rintro ⟨t, acc⟩ H locs ls ⟨⟨ht, hsm⟩, hI, hS, hl⟩ ih
  dsimp only at ht hsm hl
  refine lv_iload_n hx hb dX3_sumOfTable_4 rfl (lv_at hl 3 rfl) ?_
  refine lv_aload_n hx hb dX3_sumOfTable_5 rfl (lv_at hl 1 rfl) ?_
  refine wr_get (ci := 0) (C := RX1) (T := TX1) (N := 4) (v := .int (nI (lnv S (v)))) hx hb hts in_X1 hown hT hI (hR.2.2.1 _ (Or.inl hrv)).1 rfl 1 (by decide) (hts (.fieldLink RX3 43 "CopyRows$Row" "length" "I") (by decide +kernel)) rfl dX3_sumOfTable_6 ?_
  refine lv_icmp_ge (tgt := 58) hx hb dX3_sumOfTable_9 (by decide) (fun c_1 => ?_) (fun c_1 => ?_)
  · have c_1 : lnv S (v) ≤ t := (nI_leI (a := lnv S (v)) (b := t) (by omega) (by omega)).mp c_1
    refine lv_iload_n hx hb dX3_sumOfTable_58 rfl (lv_at hl 2 rfl) ?_
    exact re_i hx hb hr hlocks hT hA hS hI (by
            have e9 : smT S (itv S v) (lnv S v) 0 0 = (acc, uCod S 0) := by
              rw [hsm, show lnv S v - t = 0 by omega]; rfl
            exact ⟨by rw [e9], by rw [e9]; exact hR⟩) (Nat.le_of_ble_eq_true rfl) (Nat.le_of_ble_eq_true rfl) dX3_sumOfTable_59
  · have c_1 : ¬ lnv S (v) ≤ t := fun q => c_1 ((nI_leI (a := lnv S (v)) (b := t) (by omega) (by omega)).mpr q)
    refine lv_aload_n hx hb dX3_sumOfTable_12 rfl (lv_at hl 1 rfl) ?_
    refine wr_get (ci := 0) (C := RX1) (T := TX1) (N := 4) (v := .ref (aQ D (v))) hx hb hts in_X1 hown hT hI (hR.2.2.1 _ (Or.inl hrv)).1 rfl 3 (by decide) (hts (.fieldLink RX3 63 "CopyRows$Row" "parts" "[LCopyRows$Part;") (by decide +kernel)) rfl dX3_sumOfTable_13 ?_
    refine lv_iload_n hx hb dX3_sumOfTable_16 rfl (lv_at hl 3 rfl) ?_
    refine wr_aaldN (t := t) (n := lnv S (v)) (f := fun k9 => pO D (kdv S (v)) (itv S (v) k9)) hx hb hT hI (hR.par (Or.inl hrv) hkn) 1 rfl (by omega) (by omega) dX3_sumOfTable_17 ?_
    rcases hW.part D hrv hkn t with ⟨ei2, eo2⟩ | ⟨ei2, ek2, hx2, hxk2, eo2⟩ | ⟨ei2, ek2, hx2, eo2⟩
    · refine W.eq (g2 := F0 m 18 ls [.null]) (by first | (rw [eo2]; rfl) | (dsimp only; rw [eo2]; rfl)) ?_
      refine lv_astoreN (lv' := [(5, .null), (0, .ref (aH D)), (1, .ref (aR D v)), (2, .int acc), (3, .int (nI t))]) hx hb dX3_sumOfTable_18 hl (by decide) rfl (fun ls hl => ?_)
      refine lv_aloadN hx hb dX3_sumOfTable_20 (lv_at hl 0 rfl) ?_
      refine lv_instN hx hb dX3_sumOfTable_22 ?_
      refine lv_if_eq (tgt := 46) hx hb dX3_sumOfTable_25 (by decide) (fun _ => ?_) (fun c => absurd c (by decide))
      refine lv_aload_n hx hb dX3_sumOfTable_46 rfl (lv_at hl 1 rfl) ?_
      refine lv_iconst (v := 1) hx hb dX3_sumOfTable_47 (by decide) ?_
      refine ca_V (As := [.int 1]) (rest := []) (r0 := (RX3, TX3, 2)) (ci := 2) ⟨hx, hb, hml, hown, hts⟩ (cc_X3_fail l E A _ 1 hR) (cwV 1 hts gX3_sumOfTable_X3_fail rfl rfl rfl (by decide +kernel) ⟨(Nat.le_of_ble_eq_true rfl), (Nat.le_of_ble_eq_true rfl)⟩) hT hI hA hS rfl hR.1 rfl rfl hl.1 (Nat.le_of_ble_eq_true rfl) dX3_sumOfTable_48 ⟨(Nat.le_of_ble_eq_true rfl), (Nat.le_of_ble_eq_true rfl)⟩ (fun r w_4 H locs hp_3 hI hS => ?_)
      obtain ⟨rfl, hR⟩ := hp_3
      refine W.eq (g2 := F0 m 51 ls [.int 0]) rfl ?_
      exact re_i hx hb hr hlocks hT hA hS hI (by
                have e9 : smT S (itv S v) (lnv S v) 0 0 = (0, uCod S 1) := by
                  rw [hsm]
                  obtain ⟨d9, hd9⟩ : ∃ d9, lnv S v - t = d9 + 1 := ⟨lnv S v - t - 1, by omega⟩
                  rw [hd9]
                  simp only [smT]
                  rw [if_pos ei2]
                exact ⟨by rw [e9], by rw [e9]; exact hR⟩) (Nat.le_of_ble_eq_true rfl) (Nat.le_of_ble_eq_true rfl) dX3_sumOfTable_51
    · refine W.eq (g2 := F0 m 18 ls [.ref (aR D (itv S (v) t))]) (by first | (rw [eo2]; rfl) | (dsimp only; rw [eo2]; rfl)) ?_
      have hl9 := hW.ln (Or.inl hx2)
      refine lv_astore (lv' := [(5, .ref (aR D (itv S (v) t))), (0, .ref (aH D)), (1, .ref (aR D v)), (2, .int acc), (3, .int (nI t))]) hx hb dX3_sumOfTable_18 hl (by decide) rfl (fun ls hl => ?_)
      refine lv_aload hx hb dX3_sumOfTable_20 (lv_at hl 0 rfl) ?_
      refine va_instY (C := RX1) hx hb hown (hts (.classLink RX3 9 RX1) (by decide +kernel)) hT.2.2.2.2.2.2.2.2.2.1 (wr_recv hT hI (ci := 0) (r := (RX1, TX1, 4)) rfl (hR.2.2.1 _ (Or.inl hx2)).1) dX3_sumOfTable_22 ?_
      refine lv_if_eq (tgt := 46) hx hb dX3_sumOfTable_25 (by decide) (fun c => absurd c (by decide)) (fun _ => ?_)
      refine lv_aload hx hb dX3_sumOfTable_28 (lv_at hl 0 rfl) ?_
      refine va_castY (C := RX1) hx hb hown (hts (.classLink RX3 9 RX1) (by decide +kernel)) hT.2.2.2.2.2.2.2.2.2.1 (wr_recv hT hI (ci := 0) (r := (RX1, TX1, 4)) rfl (hR.2.2.1 _ (Or.inl hx2)).1) dX3_sumOfTable_30 ?_
      refine lv_astore (lv' := [(4, .ref (aR D (itv S (v) t))), (5, .ref (aR D (itv S (v) t))), (0, .ref (aH D)), (1, .ref (aR D v)), (2, .int acc), (3, .int (nI t))]) hx hb dX3_sumOfTable_33 hl (by decide) rfl (fun ls hl => ?_)
      refine lv_iload_n hx hb dX3_sumOfTable_35 rfl (lv_at hl 4 rfl) ?_
      refine lv_aload hx hb dX3_sumOfTable_36 (lv_at hl 0 rfl) ?_
      refine ca_V (As := []) (rest := [.int acc]) (r0 := (RX1, TX1, 4)) (ci := 0) ⟨hx, hb, hml, hown, hts⟩ (cc_X1_total l E A _ (z := lnv S (itv S (v) t)) (f := itv S (itv S (v) t)) (by omega) (hR.2.2.1 _ (Or.inl hx2)).1 (hR.num (Or.inl hx2) (Or.inr hxk2))) (cwV 0 hts gX3_sumOfTable_X1_total rfl rfl rfl (by decide +kernel) ⟨(Nat.le_of_ble_eq_true rfl), (Nat.le_of_ble_eq_true rfl)⟩) hT hI hA hS rfl (hR.2.2.1 _ (Or.inl hx2)).1 rfl rfl hl.1 (Nat.le_of_ble_eq_true rfl) dX3_sumOfTable_38 ⟨(Nat.le_of_ble_eq_true rfl), (Nat.le_of_ble_eq_true rfl)⟩ (fun r w_6 H locs hp_5 hI hS => ?_)
      obtain ⟨rfl, rfl⟩ := hp_5
      refine W.eq (g2 := F0 m 41 ls [.int (sumF (itv S (itv S (v) t)) (lnv S (itv S (v) t))), .int acc]) rfl ?_
      refine lv_iadd hx hb dX3_sumOfTable_41 ?_
      refine lv_istore_n (lv' := [(2, .int (acc + (sumF (itv S (itv S (v) t)) (lnv S (itv S (v) t))))), (4, .ref (aR D (itv S (v) t))), (5, .ref (aR D (itv S (v) t))), (0, .ref (aH D)), (1, .ref (aR D v)), (3, .int (nI t))]) hx hb dX3_sumOfTable_42 rfl hl (by decide) rfl (fun ls hl => ?_)
      refine lv_goto (tgt := 52) hx hb dX3_sumOfTable_43 (by decide) ?_
      refine lv_iinc (v := nI (t + 1)) (lv' := [(3, .int (nI (t + 1))), (2, .int (acc + (sumF (itv S (itv S (v) t)) (lnv S (itv S (v) t))))), (4, .ref (aR D (itv S (v) t))), (5, .ref (aR D (itv S (v) t))), (0, .ref (aH D)), (1, .ref (aR D v))]) hx hb dX3_sumOfTable_52 hl (k := 5) rfl (nI_1 _) (by decide) rfl (fun ls hl => ?_)
      refine lv_goto (tgt := 4) hx hb dX3_sumOfTable_55 (by decide) ?_
      refine ih (t + 1, acc + sumF (itv S (itv S v t)) (lnv S (itv S v t))) _ _ _ ⟨⟨by show t + 1 ≤ lnv S v; omega, ?_⟩, hI, hS, lv_sub hl [4, 5, 1, 0] rfl⟩ (by show lnv S v - (t + 1) < lnv S v - t; omega)
      show smT _ _ _ 0 0 = smT _ _ (lnv S v - (t + 1)) (t + 1) _
      rw [hsm]
      obtain ⟨d9, hd9⟩ : ∃ d9, lnv S v - t = d9 + 1 := ⟨lnv S v - t - 1, by omega⟩
      rw [hd9, show lnv S v - (t + 1) = d9 by omega]
      simp only [smT]
      rw [if_neg ei2]
    · exact absurd hkv ek2

set_option maxHeartbeats 4000000 in
set_option maxRecDepth 100000 in
theorem cc_X3_sum (l : Launch) (E : En) (A : Nat → Prop) (w : Wd) {S : Sx} {D : Ad} (p : Int32) (hW : Wf S) (hR : Rp E S D w) (hb9 : sNr S < 512 ∧ sNt S < 512 ∧ sNl S < 512) : Ct l yX3_sum wsX3_sum ({ frames := 2, cells := 0, slots := 0, locals := 47 } : Room) E A w [.ref (aH D), .int p] (fun r w' => PoC E D (sp_sum S p) r w') 0 0 := by
  refine Met.ofW (cc := cX3_sum) (maxL := 3) (ret := (some .int)) (by decide) rfl ?_
  intro pp0 ee0 s m args below meth cc0 s₁ B hml hv
  obtain ⟨rfl, hT, hI, hA⟩ := hv
  have hx := B.exec
  have hb := B.bytes
  have hr := B.returns
  have hts := atoms_spec (ws := wsX3_sum) B.pre
  have hown : s.vm.findClass RX3 = some m.cls := findClass_of_methodNamed B.named
  have hlocks := B.notSynchronized
  have in_X1 : ∀ w ∈ wsX10, w ∈ wsX3_sum := by decide +kernel
  have hS : va_S A s.heap s.heap [] := va_S.rf
  have hl := lv_entry ([.ref (aH D), .int p]) (n := 3) (Nat.le_of_ble_eq_true rfl)
  rw [lg_entry_eq]
  generalize (lg_sl ([.ref (aH D), .int p]) ++ List.replicate (3 - (lg_sl ([.ref (aH D), .int p])).length) Slot.unset).toArray = ls at hl ⊢
  have hl : lv_has ls 3 [(0, .ref (aH D)), (1, .int p)] := hl
  refine lv_iload_n hx hb dX3_sum_0 rfl (lv_at hl 1 rfl) ?_
  refine ca_S (As := [.int p]) (rest := []) ⟨hx, hb, hml, hown, hts⟩ (cc_X3_isOutside l E A _ p) (va_cwS 1 hts gX3_sum_X3_isOutside rfl rfl rfl (by decide +kernel) ⟨(Nat.le_of_ble_eq_true rfl), (Nat.le_of_ble_eq_true rfl)⟩) hT hI hA hS rfl rfl hl.1 (Nat.le_of_ble_eq_true rfl) dX3_sum_1 ⟨(Nat.le_of_ble_eq_true rfl), (Nat.le_of_ble_eq_true rfl)⟩ (fun r w_2 H locs hp_1 hI hS => ?_)
  obtain ⟨rfl, ⟨ho_3, rfl⟩ | ⟨ho_3, rfl⟩⟩ := hp_1
  · refine W.eq (g2 := F0 m 4 ls [.int 1]) rfl ?_
    refine lv_if_eq (tgt := 10) hx hb dX3_sum_4 (by decide) (fun c => absurd c (by decide)) (fun _ => ?_)
    refine lv_ldc (v := -2000000001) hx hb hown (hts (.constant RX3 23 (-2000000001)) (by decide +kernel)) dX3_sum_7 ?_
    exact re_i hx hb hr hlocks hT hA hS hI (PoC.of (by
            unfold sp_sum
            rw [if_pos (ho_3)]
            try rfl) hR rfl) (Nat.le_of_ble_eq_true rfl) (Nat.le_of_ble_eq_true rfl) dX3_sum_9
  · refine W.eq (g2 := F0 m 4 ls [.int 0]) rfl ?_
    refine lv_if_eq (tgt := 10) hx hb dX3_sum_4 (by decide) (fun _ => ?_) (fun c => absurd c (by decide))
    refine lv_aload_n hx hb dX3_sum_10 rfl (lv_at hl 0 rfl) ?_
    refine lv_iload_n hx hb dX3_sum_11 rfl (lv_at hl 1 rfl) ?_
    refine lv_bipush (v := 7) hx hb dX3_sum_12 (by decide) ?_
    obtain ⟨pj, hpj, rfl⟩ := isP_nat ho_3
    refine ca_V (As := [.int (nI pj), .int 7]) (rest := []) (r0 := (RX3, TX3, 2)) (ci := 2) ⟨hx, hb, hml, hown, hts⟩ (cc_X3_rowOf l E A _ (by omega) msk7 hW hR) (cwV 2 hts gX3_sum_X3_rowOf rfl rfl rfl (by decide +kernel) ⟨(Nat.le_of_ble_eq_true rfl), (Nat.le_of_ble_eq_true rfl)⟩) hT hI hA hS rfl hR.1 rfl rfl hl.1 (Nat.le_of_ble_eq_true rfl) dX3_sum_14 ⟨(Nat.le_of_ble_eq_true rfl), (Nat.le_of_ble_eq_true rfl)⟩ (fun r w_5 H locs hp_4 hI hS => ?_)
    rcases hp_4 with ⟨ez6, rfl, hR⟩ | ⟨ez6, hv6, hk6, rfl, hR⟩ | ⟨ez6, hv6, hk6, rfl, hR⟩
    · refine W.eq (g2 := F0 m 17 ls [.null]) rfl ?_
      refine lv_astore_nN (lv' := [(2, .null), (0, .ref (aH D)), (1, .int (nI pj))]) hx hb dX3_sum_17 rfl hl (by decide) rfl (fun ls hl => ?_)
      refine lv_aload_nN hx hb dX3_sum_18 rfl (lv_at hl 0 rfl) ?_
      refine lv_ifnonnullN hx hb dX3_sum_19 ?_
      refine lv_iconst (v := 0) hx hb dX3_sum_22 (by decide) ?_
      exact re_i hx hb hr hlocks hT hA hS hI (PoC.of (by
                unfold sp_sum
                try simp only [pv_nI hpj]
                rw [if_neg (ho_3), if_pos (ez6)]
                try rfl) hR rfl) (Nat.le_of_ble_eq_true rfl) (Nat.le_of_ble_eq_true rfl) dX3_sum_23
    · refine W.eq (g2 := F0 m 17 ls [.null]) rfl ?_
      refine lv_astore_nN (lv' := [(2, .null), (0, .ref (aH D)), (1, .int (nI pj))]) hx hb dX3_sum_17 rfl hl (by decide) rfl (fun ls hl => ?_)
      refine lv_aload_nN hx hb dX3_sum_18 rfl (lv_at hl 0 rfl) ?_
      refine lv_ifnonnullN hx hb dX3_sum_19 ?_
      refine lv_iconst (v := 0) hx hb dX3_sum_22 (by decide) ?_
      exact re_i hx hb hr hlocks hT hA hS hI (PoC.of (by
                unfold sp_sum
                try simp only [pv_nI hpj]
                rw [if_neg (ho_3), if_neg (ez6), if_pos (hk6)]
                try rfl) hR rfl) (Nat.le_of_ble_eq_true rfl) (Nat.le_of_ble_eq_true rfl) dX3_sum_23
    · have hln6 := hW.ln hv6
      have hr6 : vR S (sPl S pj) := vO_row hv6 (by rcases hk6 with (h | h) | h <;> rw [h] <;> decide)
      refine W.eq (g2 := F0 m 17 ls [.ref (aR D (sPl S pj))]) rfl ?_
      refine lv_astore_n (lv' := [(2, .ref (aR D (sPl S pj))), (0, .ref (aH D)), (1, .int (nI pj))]) hx hb dX3_sum_17 rfl hl (by decide) rfl (fun ls hl => ?_)
      refine lv_aload_n hx hb dX3_sum_18 rfl (lv_at hl 0 rfl) ?_
      refine lv_ifnonnull (tgt := 24) hx hb dX3_sum_19 (by decide) ?_
      refine lv_aload_n hx hb dX3_sum_24 rfl (lv_at hl 0 rfl) ?_
      refine wr_get (ci := 0) (C := RX1) (T := TX1) (N := 4) (v := .int (kdv S (sPl S pj))) hx hb hts in_X1 hown hT hI (hR.2.2.1 _ hv6).1 rfl 0 (by decide) (hts (.fieldLink RX3 53 "CopyRows$Row" "kind" "I") (by decide +kernel)) rfl dX3_sum_25 ?_
      refine lv_iconst (v := 2) hx hb dX3_sum_28 (by decide) ?_
      refine lv_icmp_ne (tgt := 40) hx hb dX3_sum_29 (by decide) (fun c_7 => ?_) (fun c_7 => ?_)
      · have hkn : isN (kdv S (sPl S pj)) := Or.resolve_right hk6 c_7
        refine lv_aload_n hx hb dX3_sum_40 rfl (lv_at hl 0 rfl) ?_
        refine ca_V (As := []) (rest := []) (r0 := (RX1, TX1, 4)) (ci := 0) ⟨hx, hb, hml, hown, hts⟩ (cc_X1_total l E A _ (z := lnv S (sPl S pj)) (f := itv S (sPl S pj)) (by omega) (hR.2.2.1 _ hv6).1 (hR.num hv6 hkn)) (cwV 0 hts gX3_sum_X1_total rfl rfl rfl (by decide +kernel) ⟨(Nat.le_of_ble_eq_true rfl), (Nat.le_of_ble_eq_true rfl)⟩) hT hI hA hS rfl (hR.2.2.1 _ hv6).1 rfl rfl hl.1 (Nat.le_of_ble_eq_true rfl) dX3_sum_41 ⟨(Nat.le_of_ble_eq_true rfl), (Nat.le_of_ble_eq_true rfl)⟩ (fun r w_9 H locs hp_8 hI hS => ?_)
        obtain ⟨rfl, rfl⟩ := hp_8
        refine W.eq (g2 := F0 m 44 ls [.int (sumF (itv S (sPl S pj)) (lnv S (sPl S pj)))]) rfl ?_
        exact re_i hx hb hr hlocks hT hA hS hI (PoC.of (by
                    unfold sp_sum
                    try simp only [pv_nI hpj]
                    rw [if_neg (ho_3), if_neg (ez6), if_neg (not_not_intro hk6), if_neg (c_7)]
                    try rfl) hR rfl) (Nat.le_of_ble_eq_true rfl) (Nat.le_of_ble_eq_true rfl) dX3_sum_44
      · refine lv_aload_n hx hb dX3_sum_32 rfl (lv_at hl 1 rfl) ?_
        refine lv_aload_n hx hb dX3_sum_33 rfl (lv_at hl 0 rfl) ?_
        refine ca_V (As := [.ref (aR D (sPl S pj))]) (rest := []) (r0 := (RX3, TX3, 2)) (ci := 2) ⟨hx, hb, hml, hown, hts⟩ (cc_X3_sumOfTable l E A _ hW hR hr6 c_7) (cwV 1 hts gX3_sum_X3_sumOfTable rfl rfl rfl (by decide +kernel) ⟨(Nat.le_of_ble_eq_true rfl), (Nat.le_of_ble_eq_true rfl)⟩) hT hI hA hS rfl hR.1 rfl rfl hl.1 (Nat.le_of_ble_eq_true rfl) dX3_sum_34 ⟨(Nat.le_of_ble_eq_true rfl), (Nat.le_of_ble_eq_true rfl)⟩ (fun r w_11 H locs hp_10 hI hS => ?_)
        obtain ⟨rfl, hR⟩ := hp_10
        refine W.eq (g2 := F0 m 37 ls [.int ((smT S (itv S (sPl S pj)) (lnv S (sPl S pj)) 0 0).1)]) rfl ?_
        refine lv_goto (tgt := 44) hx hb dX3_sum_37 (by decide) ?_
        exact re_i hx hb hr hlocks hT hA hS hI (PoC.of (by
                    unfold sp_sum
                    try simp only [pv_nI hpj]
                    rw [if_neg (ho_3), if_neg (ez6), if_neg (not_not_intro hk6), if_pos (c_7)]
                    try rfl) hR rfl) (Nat.le_of_ble_eq_true rfl) (Nat.le_of_ble_eq_true rfl) dX3_sum_44

set_option maxHeartbeats 4000000 in
set_option maxRecDepth 100000 in
theorem cc_X3_isFirstHeldAt (l : Launch) (E : En) (A : Nat → Prop) (w : Wd) {S : Sx} {D : Ad} {j : Nat} (hj : j < 12) (ez : ¬ sPl S j = -1) (hW : Wf S) (hR : Rp E S D w) : Ct l yX3_isFirstHeldAt wsX3_isFirstHeldAt ({ frames := 0, cells := 0, slots := 0, locals := 0 } : Room) E A w [.ref (aH D), .ref (aR D (sPl S j)), .int (nI j)] (fun r w' => w = w' ∧ (((frs S j) ∧ r = some (.int 1)) ∨ (¬ (frs S j) ∧ r = some (.int 0)))) 0 0 := by
  refine Met.ofW (cc := cX3_isFirstHeldAt) (maxL := 4) (ret := (some .boolean)) (by decide) rfl ?_
  intro pp0 ee0 s m args below meth cc0 s₁ B hml hv
  obtain ⟨rfl, hT, hI, hA⟩ := hv
  have hx := B.exec
  have hb := B.bytes
  have hr := B.returns
  have hts := atoms_spec (ws := wsX3_isFirstHeldAt) B.pre
  have hown : s.vm.findClass RX3 = some m.cls := findClass_of_methodNamed B.named
  have hlocks := B.notSynchronized
  have in_X3 : ∀ w ∈ wsX30, w ∈ wsX3_isFirstHeldAt := by decide +kernel
  have hS : va_S A s.heap s.heap [] := va_S.rf
  have hl := lv_entry ([.ref (aH D), .ref (aR D (sPl S j)), .int (nI j)]) (n := 4) (Nat.le_of_ble_eq_true rfl)
  rw [lg_entry_eq]
  generalize (lg_sl ([.ref (aH D), .ref (aR D (sPl S j)), .int (nI j)]) ++ List.replicate (4 - (lg_sl ([.ref (aH D), .ref (aR D (sPl S j)), .int (nI j)])).length) Slot.unset).toArray = ls at hl ⊢
  have hl : lv_has ls 4 [(0, .ref (aH D)), (1, .ref (aR D (sPl S j))), (2, .int (nI j))] := hl
  have hpl : plO D (sPl S j) = some (aR D (sPl S j)) := if_neg ez
  refine lv_iconst (v := 0) hx hb dX3_isFirstHeldAt_0 (by decide) ?_
  refine lv_istore_n (lv' := [(3, .int 0), (0, .ref (aH D)), (1, .ref (aR D (sPl S j))), (2, .int (nI j))]) hx hb dX3_isFirstHeldAt_1 rfl hl (by decide) rfl (fun ls hl => ?_)
  refine lp_w (ι := Nat) (fun t => j - t) (fun t H locs ls => (t ≤ j ∧ ∀ q9, q9 < t → ¬ sPl S q9 = sPl S j) ∧ Hv E A w H ∧ va_S A s.heap H locs ∧ lv_has ls 4 [(0, .ref (aH D)), (1, .ref (aR D (sPl S j))), (2, .int (nI j)), (3, .int (nI t))]) ?_ 0 _ _ _ ⟨⟨Nat.zero_le _, fun q9 h9 => absurd h9 (Nat.not_lt_zero _)⟩, hI, hS, lv_sub hl [1, 2, 3, 0] (rfl)⟩
  intro t H locs ls hq ih
  obtain ⟨⟨ht, hall⟩, hI, hS, hl⟩ := hq
  refine lv_iload_n hx hb dX3_isFirstHeldAt_2 rfl (lv_at hl 3 rfl) ?_
  refine lv_iload_n hx hb dX3_isFirstHeldAt_3 rfl (lv_at hl 2 rfl) ?_
  refine lv_icmp_ge (tgt := 25) hx hb dX3_isFirstHeldAt_4 (by decide) (fun c_1 => ?_) (fun c_1 => ?_)
  · have c_1 : j ≤ t := (nI_leI (a := j) (b := t) (by omega) (by omega)).mp c_1
    refine lv_iconst (v := 1) hx hb dX3_isFirstHeldAt_25 (by decide) ?_
    exact re_z hx hb hr hlocks hT hA hS hI (by decide) (⟨rfl, Or.inl ⟨fun q9 h9 => hall q9 (by omega), rfl⟩⟩) (Nat.le_of_ble_eq_true rfl) (Nat.le_of_ble_eq_true rfl) dX3_isFirstHeldAt_26
  · have c_1 : ¬ j ≤ t := fun q => c_1 ((nI_leI (a := j) (b := t) (by omega) (by omega)).mpr q)
    refine lv_aload_n hx hb dX3_isFirstHeldAt_7 rfl (lv_at hl 0 rfl) ?_
    refine wr_get (ci := 2) (C := RX3) (T := TX3) (N := 2) (v := .ref (aP D)) hx hb hts in_X3 hown hT hI hR.1 rfl 0 (by decide) (hts (.fieldLink RX3 11 "CopyRows" "places" "[LCopyRows$Row;") (by decide +kernel)) rfl dX3_isFirstHeldAt_8 ?_
    refine lv_iload_n hx hb dX3_isFirstHeldAt_11 rfl (lv_at hl 3 rfl) ?_
    refine wr_aaldN (t := t) (n := 12) (f := fun k9 => plO D (sPl S k9)) hx hb hT hI hR.2.1 2 rfl (by omega) (by omega) dX3_isFirstHeldAt_12 ?_
    refine lv_aload_n hx hb dX3_isFirstHeldAt_13 rfl (lv_at hl 1 rfl) ?_
    refine W.eq (g2 := F0 m 14 ls (va_rf (plO D (sPl S j)) :: va_rf (plO D (sPl S t)) :: [])) (by rw [hpl]; rfl) ?_
    refine lv_acmp_ne (tgt := 19) hx hb dX3_isFirstHeldAt_14 (by decide) (fun c9 => ?_) (fun c9 => ?_)
    · have c9 : ¬ sPl S t = sPl S j := fun q9 => c9 ((hR.pl_inj (hW.1 t) (hW.1 j)).mpr q9)
      refine lv_iinc (v := nI (t + 1)) (lv' := [(3, .int (nI (t + 1))), (0, .ref (aH D)), (1, .ref (aR D (sPl S j))), (2, .int (nI j))]) hx hb dX3_isFirstHeldAt_19 hl (k := 3) rfl (nI_1 _) (by decide) rfl (fun ls hl => ?_)
      refine lv_goto (tgt := 2) hx hb dX3_isFirstHeldAt_22 (by decide) ?_
      exact ih (t + 1) _ _ _ ⟨⟨by omega, fun q9 h9 => by rcases Nat.lt_or_ge q9 t with h | h; exact hall q9 h; rw [show q9 = t by omega]; exact c9⟩, hI, hS, lv_sub hl [1, 2, 3, 0] (rfl)⟩ (by omega)
    · have c9 : sPl S t = sPl S j := (hR.pl_inj (hW.1 t) (hW.1 j)).mp c9
      refine lv_iconst (v := 0) hx hb dX3_isFirstHeldAt_17 (by decide) ?_
      exact re_z hx hb hr hlocks hT hA hS hI (by decide) (⟨rfl, Or.inr ⟨fun q9 => q9 t (by omega) c9, rfl⟩⟩) (Nat.le_of_ble_eq_true rfl) (Nat.le_of_ble_eq_true rfl) dX3_isFirstHeldAt_18

set_option maxHeartbeats 4000000 in
set_option maxRecDepth 100000 in
theorem cc_X3_held (l : Launch) (E : En) (A : Nat → Prop) (w : Wd) {S : Sx} {D : Ad} (p : Int32) (hW : Wf S) (hR : Rp E S D w) (hb9 : sNr S < 512 ∧ sNt S < 512 ∧ sNl S < 512) : Ct l yX3_held wsX3_held ({ frames := 1, cells := 0, slots := 0, locals := 23 } : Room) E A w [.ref (aH D), .int p] (fun r w' => PoC E D (sp_held S p) r w') 0 0 := by
  refine Met.ofW (cc := cX3_held) (maxL := 6) (ret := (some .int)) (by decide) rfl ?_
  intro pp0 ee0 s m args below meth cc0 s₁ B hml hv
  obtain ⟨rfl, hT, hI, hA⟩ := hv
  have hx := B.exec
  have hb := B.bytes
  have hr := B.returns
  have hts := atoms_spec (ws := wsX3_held) B.pre
  have hown : s.vm.findClass RX3 = some m.cls := findClass_of_methodNamed B.named
  have hlocks := B.notSynchronized
  have in_X3 : ∀ w ∈ wsX30, w ∈ wsX3_held := by decide +kernel
  have hS : va_S A s.heap s.heap [] := va_S.rf
  have hl := lv_entry ([.ref (aH D), .int p]) (n := 6) (Nat.le_of_ble_eq_true rfl)
  rw [lg_entry_eq]
  generalize (lg_sl ([.ref (aH D), .int p]) ++ List.replicate (6 - (lg_sl ([.ref (aH D), .int p])).length) Slot.unset).toArray = ls at hl ⊢
  have hl : lv_has ls 6 [(0, .ref (aH D)), (1, .int p)] := hl
  refine lv_iload_n hx hb dX3_held_0 rfl (lv_at hl 1 rfl) ?_
  refine ca_S (As := [.int p]) (rest := []) ⟨hx, hb, hml, hown, hts⟩ (cc_X3_isOutside l E A _ p) (va_cwS 1 hts gX3_held_X3_isOutside rfl rfl rfl (by decide +kernel) ⟨(Nat.le_of_ble_eq_true rfl), (Nat.le_of_ble_eq_true rfl)⟩) hT hI hA hS rfl rfl hl.1 (Nat.le_of_ble_eq_true rfl) dX3_held_1 ⟨(Nat.le_of_ble_eq_true rfl), (Nat.le_of_ble_eq_true rfl)⟩ (fun r w_2 H locs hp_1 hI hS => ?_)
  obtain ⟨rfl, ⟨ho_3, rfl⟩ | ⟨ho_3, rfl⟩⟩ := hp_1
  · refine W.eq (g2 := F0 m 4 ls [.int 1]) rfl ?_
    refine lv_if_eq (tgt := 10) hx hb dX3_held_4 (by decide) (fun c => absurd c (by decide)) (fun _ => ?_)
    refine lv_ldc (v := -2000000001) hx hb hown (hts (.constant RX3 23 (-2000000001)) (by decide +kernel)) dX3_held_7 ?_
    exact re_i hx hb hr hlocks hT hA hS hI (PoC.of (by
            unfold sp_held
            rw [if_pos (ho_3)]) hR rfl) (Nat.le_of_ble_eq_true rfl) (Nat.le_of_ble_eq_true rfl) dX3_held_9
  · refine W.eq (g2 := F0 m 4 ls [.int 0]) rfl ?_
    refine lv_if_eq (tgt := 10) hx hb dX3_held_4 (by decide) (fun _ => ?_) (fun c => absurd c (by decide))
    refine lv_aload_n hx hb dX3_held_10 rfl (lv_at hl 0 rfl) ?_
    refine wr_get (ci := 2) (C := RX3) (T := TX3) (N := 2) (v := .ref (aP D)) hx hb hts in_X3 hown hT hI hR.1 rfl 0 (by decide) (hts (.fieldLink RX3 11 "CopyRows" "places" "[LCopyRows$Row;") (by decide +kernel)) rfl dX3_held_11 ?_
    refine lv_iload_n hx hb dX3_held_14 rfl (lv_at hl 1 rfl) ?_
    obtain ⟨pj, hpj, rfl⟩ := isP_nat ho_3
    refine wr_aaldN (t := pj) hx hb hT hI hR.2.1 2 rfl (by omega) (by omega) dX3_held_15 ?_
    rcases hW.pl D pj with ⟨ez4, ep4⟩ | ⟨ez4, hv4, ep4⟩
    · refine W.eq (g2 := F0 m 16 ls [.null]) (by rw [ep4]; rfl) ?_
      refine lv_astore_nN (lv' := [(2, .null), (0, .ref (aH D)), (1, .int (nI pj))]) hx hb dX3_held_16 rfl hl (by decide) rfl (fun ls hl => ?_)
      refine lv_aload_nN hx hb dX3_held_17 rfl (lv_at hl 0 rfl) ?_
      refine lv_ifnonnullN hx hb dX3_held_18 ?_
      refine lv_iconst (v := 0) hx hb dX3_held_21 (by decide) ?_
      exact re_i hx hb hr hlocks hT hA hS hI (PoC.of (by
                unfold sp_held
                try simp only [pv_nI hpj]
                rw [if_neg (ho_3), if_pos (ez4)]) hR rfl) (Nat.le_of_ble_eq_true rfl) (Nat.le_of_ble_eq_true rfl) dX3_held_22
    · refine W.eq (g2 := F0 m 16 ls [.ref (aR D (sPl S pj))]) (by rw [ep4]; rfl) ?_
      refine lv_astore_n (lv' := [(2, .ref (aR D (sPl S pj))), (0, .ref (aH D)), (1, .int (nI pj))]) hx hb dX3_held_16 rfl hl (by decide) rfl (fun ls hl => ?_)
      refine lv_aload_n hx hb dX3_held_17 rfl (lv_at hl 0 rfl) ?_
      refine lv_ifnonnull (tgt := 23) hx hb dX3_held_18 (by decide) ?_
      refine lv_iconst (v := 0) hx hb dX3_held_23 (by decide) ?_
      refine lv_istore_n (lv' := [(3, .int 0), (2, .ref (aR D (sPl S pj))), (0, .ref (aH D)), (1, .int (nI pj))]) hx hb dX3_held_24 rfl hl (by decide) rfl (fun ls hl => ?_)
      refine lv_iconst (v := 0) hx hb dX3_held_25 (by decide) ?_
      refine lv_istore (lv' := [(4, .int 0), (3, .int 0), (2, .ref (aR D (sPl S pj))), (0, .ref (aH D)), (1, .int (nI pj))]) hx hb dX3_held_26 hl (by decide) rfl (fun ls hl => ?_)
      refine lp_w (ι := Nat) (fun t => 12 - t) (fun t H locs ls => (t ≤ 12) ∧ Hv E A w H ∧ va_S A s.heap H locs ∧ lv_has ls 6 [(0, .ref (aH D)), (2, .ref (aR D (sPl S pj))), (3, .int (nI (hldF S (sPl S pj) t))), (4, .int (nI t))]) ?_ 0 _ _ _ ⟨Nat.zero_le _, hI, hS, lv_sub hl [3, 2, 1, 0] rfl⟩
      intro t H locs ls hq ih
      obtain ⟨ht, hI, hS, hl⟩ := hq
      have hbd := hldF_le S hW (sPl S pj) t
      refine lv_iload hx hb dX3_held_28 (lv_at hl 3 rfl) ?_
      refine lv_bipush (v := 12) hx hb dX3_held_30 (by decide) ?_
      refine lv_icmp_ge (tgt := 84) hx hb dX3_held_32 (by decide) (fun c_5 => ?_) (fun c_5 => ?_)
      · have c_5 : 12 ≤ t := (nI_leI (a := 12) (b := t) (by omega) (by omega)).mp c_5
        refine lv_iload_n hx hb dX3_held_84 rfl (lv_at hl 2 rfl) ?_
        exact re_i hx hb hr hlocks hT hA hS hI (PoC.of (by
                    unfold sp_held
                    try simp only [pv_nI hpj]
                    rw [if_neg (ho_3), if_neg (ez4)]
                    rw [show (12 : Nat) = t by omega]) hR rfl) (Nat.le_of_ble_eq_true rfl) (Nat.le_of_ble_eq_true rfl) dX3_held_85
      · have c_5 : ¬ 12 ≤ t := fun q => c_5 ((nI_leI (a := 12) (b := t) (by omega) (by omega)).mpr q)
        refine lv_aload_n hx hb dX3_held_35 rfl (lv_at hl 0 rfl) ?_
        refine wr_get (ci := 2) (C := RX3) (T := TX3) (N := 2) (v := .ref (aP D)) hx hb hts in_X3 hown hT hI hR.1 rfl 0 (by decide) (hts (.fieldLink RX3 11 "CopyRows" "places" "[LCopyRows$Row;") (by decide +kernel)) rfl dX3_held_36 ?_
        refine lv_iload hx hb dX3_held_39 (lv_at hl 3 rfl) ?_
        refine wr_aaldN (t := t) hx hb hT hI hR.2.1 2 rfl (by omega) (by omega) dX3_held_41 ?_
        rcases hW.pl D t with ⟨ez6, ep6⟩ | ⟨ez6, hv6, ep6⟩
        · refine W.eq (g2 := F0 m 42 ls [.null]) (by rw [ep6]; rfl) ?_
          refine lv_astoreN (lv' := [(5, .null), (0, .ref (aH D)), (2, .ref (aR D (sPl S pj))), (3, .int (nI (hldF S (sPl S pj) t))), (4, .int (nI t))]) hx hb dX3_held_42 hl (by decide) rfl (fun ls hl => ?_)
          refine lv_aloadN hx hb dX3_held_44 (lv_at hl 0 rfl) ?_
          refine lv_aload_n hx hb dX3_held_46 rfl (lv_at hl 2 rfl) ?_
          refine W.eq (g2 := F0 m 47 ls (va_rf (plO D (sPl S pj)) :: va_rf (plO D (sPl S t)) :: [])) (by simp only [ep4, ep6]; rfl) ?_
          refine lv_acmp_ne (tgt := 53) hx hb dX3_held_47 (by decide) (fun c_7 => ?_) (fun c_7 => ?_)
          · have c_7 : ¬ sPl S t = sPl S pj := fun q9 => c_7 ((hR.pl_inj (hW.1 t) (hW.1 pj)).mpr q9)
            refine lv_aloadN hx hb dX3_held_53 (lv_at hl 0 rfl) ?_
            refine lv_ifnullN (tgt := 78) hx hb dX3_held_55 (by decide) ?_
            refine lv_iinc (v := nI (t + 1)) (lv' := [(4, .int (nI (t + 1))), (5, .null), (0, .ref (aH D)), (2, .ref (aR D (sPl S pj))), (3, .int (nI (hldF S (sPl S pj) t)))]) hx hb dX3_held_78 hl (k := 4) rfl (nI_1 _) (by decide) rfl (fun ls hl => ?_)
            refine lv_goto (tgt := 28) hx hb dX3_held_81 (by decide) ?_
            have hst : hldF S (sPl S pj) (t + 1) = hldF S (sPl S pj) t := by simp only [hldF]; rw [if_neg c_7, if_neg (fun q9 => q9.1 ez6)]; try rfl
            exact ih (t + 1) _ _ _ ⟨by omega, hI, hS, lv_sub hl [2, 3, 4, 0] (by rw [hst]; rfl)⟩ (by omega)
          · have c_7 : sPl S t = sPl S pj := (hR.pl_inj (hW.1 t) (hW.1 pj)).mp c_7
            refine lv_iinc (v := nI (hldF S (sPl S pj) t + 1)) (lv' := [(3, .int (nI (hldF S (sPl S pj) t + 1))), (5, .null), (0, .ref (aH D)), (2, .ref (aR D (sPl S pj))), (4, .int (nI t))]) hx hb dX3_held_50 hl (k := 3) rfl (nI_1 _) (by decide) rfl (fun ls hl => ?_)
            refine lv_aloadN hx hb dX3_held_53 (lv_at hl 1 rfl) ?_
            refine lv_ifnullN (tgt := 78) hx hb dX3_held_55 (by decide) ?_
            refine lv_iinc (v := nI (t + 1)) (lv' := [(4, .int (nI (t + 1))), (3, .int (nI (hldF S (sPl S pj) t + 1))), (5, .null), (0, .ref (aH D)), (2, .ref (aR D (sPl S pj)))]) hx hb dX3_held_78 hl (k := 4) rfl (nI_1 _) (by decide) rfl (fun ls hl => ?_)
            refine lv_goto (tgt := 28) hx hb dX3_held_81 (by decide) ?_
            have hst : hldF S (sPl S pj) (t + 1) = hldF S (sPl S pj) t + 1 := by simp only [hldF]; rw [if_pos c_7, if_neg (fun q9 => q9.1 ez6)]; try rfl
            exact ih (t + 1) _ _ _ ⟨by omega, hI, hS, lv_sub hl [3, 4, 1, 0] (by rw [hst]; rfl)⟩ (by omega)
        · refine W.eq (g2 := F0 m 42 ls [.ref (aR D (sPl S t))]) (by rw [ep6]; rfl) ?_
          refine lv_astore (lv' := [(5, .ref (aR D (sPl S t))), (0, .ref (aH D)), (2, .ref (aR D (sPl S pj))), (3, .int (nI (hldF S (sPl S pj) t))), (4, .int (nI t))]) hx hb dX3_held_42 hl (by decide) rfl (fun ls hl => ?_)
          refine lv_aload hx hb dX3_held_44 (lv_at hl 0 rfl) ?_
          refine lv_aload_n hx hb dX3_held_46 rfl (lv_at hl 2 rfl) ?_
          refine W.eq (g2 := F0 m 47 ls (va_rf (plO D (sPl S pj)) :: va_rf (plO D (sPl S t)) :: [])) (by simp only [ep4, ep6]; rfl) ?_
          refine lv_acmp_ne (tgt := 53) hx hb dX3_held_47 (by decide) (fun c_8 => ?_) (fun c_8 => ?_)
          · have c_8 : ¬ sPl S t = sPl S pj := fun q9 => c_8 ((hR.pl_inj (hW.1 t) (hW.1 pj)).mpr q9)
            refine lv_aload hx hb dX3_held_53 (lv_at hl 0 rfl) ?_
            refine lv_ifnull hx hb dX3_held_55 ?_
            refine lv_aload_n hx hb dX3_held_58 rfl (lv_at hl 1 rfl) ?_
            refine lv_aload hx hb dX3_held_59 (lv_at hl 0 rfl) ?_
            refine lv_iload hx hb dX3_held_61 (lv_at hl 4 rfl) ?_
            refine ca_V (As := [.ref (aR D (sPl S t)), .int (nI t)]) (rest := []) (r0 := (RX3, TX3, 2)) (ci := 2) ⟨hx, hb, hml, hown, hts⟩ (cc_X3_isFirstHeldAt l E A _ (by omega) ez6 hW hR) (cwV 2 hts gX3_held_X3_isFirstHeldAt rfl rfl rfl (by decide +kernel) ⟨(Nat.le_of_ble_eq_true rfl), (Nat.le_of_ble_eq_true rfl)⟩) hT hI hA hS rfl hR.1 rfl rfl hl.1 (Nat.le_of_ble_eq_true rfl) dX3_held_63 ⟨(Nat.le_of_ble_eq_true rfl), (Nat.le_of_ble_eq_true rfl)⟩ (fun r w_10 H locs hp_9 hI hS => ?_)
            obtain ⟨rfl, ⟨hf_11, rfl⟩ | ⟨hf_11, rfl⟩⟩ := hp_9
            · refine W.eq (g2 := F0 m 66 ls [.int 1]) rfl ?_
              refine lv_if_eq (tgt := 78) hx hb dX3_held_66 (by decide) (fun c => absurd c (by decide)) (fun _ => ?_)
              refine lv_iload_n hx hb dX3_held_69 rfl (lv_at hl 3 rfl) ?_
              refine lv_aload hx hb dX3_held_70 (lv_at hl 0 rfl) ?_
              refine lv_aload_n hx hb dX3_held_72 rfl (lv_at hl 2 rfl) ?_
              refine ca_V (As := [.ref (aR D (sPl S pj))]) (rest := [.int (nI (hldF S (sPl S pj) t))]) (r0 := (RX1, TX1, 4)) (ci := 0) ⟨hx, hb, hml, hown, hts⟩ (cc_X1_countOf l E A _ (aR D (sPl S pj)) (by have := hW.ln hv6; show (if _ then 0 else lnv S (sPl S t)) < 2 ^ 30; split <;> omega) (hR.2.2.1 _ hv6).1 (hR.2.2.1 _ hv6).2.2) (cwV 1 hts gX3_held_X1_countOf rfl rfl rfl (by decide +kernel) ⟨(Nat.le_of_ble_eq_true rfl), (Nat.le_of_ble_eq_true rfl)⟩) hT hI hA hS rfl (hR.2.2.1 _ hv6).1 rfl rfl hl.1 (Nat.le_of_ble_eq_true rfl) dX3_held_73 ⟨(Nat.le_of_ble_eq_true rfl), (Nat.le_of_ble_eq_true rfl)⟩ (fun r w_13 H locs hp_12 hI hS => ?_)
              obtain ⟨rfl, rfl⟩ := hp_12
              rw [hR.count hW hv6 hv4 ez4]
              refine W.eq (g2 := F0 m 76 ls [.int (nI (if kdv S (sPl S t) = 2 then cntI (itv S (sPl S t)) (sPl S pj) (lnv S (sPl S t)) else 0)), .int (nI (hldF S (sPl S pj) t))]) rfl ?_
              refine lv_iadd hx hb dX3_held_76 ?_
              refine W.eq (g2 := F0 m 77 ls [.int (nI ((hldF S (sPl S pj) t) + (if kdv S (sPl S t) = 2 then cntI (itv S (sPl S t)) (sPl S pj) (lnv S (sPl S t)) else 0)))]) (by rw [show (nI (hldF S (sPl S pj) t) : Int32) + nI (if kdv S (sPl S t) = 2 then cntI (itv S (sPl S t)) (sPl S pj) (lnv S (sPl S t)) else 0) = nI ((hldF S (sPl S pj) t) + (if kdv S (sPl S t) = 2 then cntI (itv S (sPl S t)) (sPl S pj) (lnv S (sPl S t)) else 0)) from nI_add (hldF S (sPl S pj) t) (if kdv S (sPl S t) = 2 then cntI (itv S (sPl S t)) (sPl S pj) (lnv S (sPl S t)) else 0)]) ?_
              refine lv_istore_n (lv' := [(3, .int (nI ((hldF S (sPl S pj) t) + (if kdv S (sPl S t) = 2 then cntI (itv S (sPl S t)) (sPl S pj) (lnv S (sPl S t)) else 0)))), (5, .ref (aR D (sPl S t))), (0, .ref (aH D)), (2, .ref (aR D (sPl S pj))), (4, .int (nI t))]) hx hb dX3_held_77 rfl hl (by decide) rfl (fun ls hl => ?_)
              refine lv_iinc (v := nI (t + 1)) (lv' := [(4, .int (nI (t + 1))), (3, .int (nI ((hldF S (sPl S pj) t) + (if kdv S (sPl S t) = 2 then cntI (itv S (sPl S t)) (sPl S pj) (lnv S (sPl S t)) else 0)))), (5, .ref (aR D (sPl S t))), (0, .ref (aH D)), (2, .ref (aR D (sPl S pj)))]) hx hb dX3_held_78 hl (k := 4) rfl (nI_1 _) (by decide) rfl (fun ls hl => ?_)
              refine lv_goto (tgt := 28) hx hb dX3_held_81 (by decide) ?_
              have hst : hldF S (sPl S pj) (t + 1) = (hldF S (sPl S pj) t) + (if kdv S (sPl S t) = 2 then cntI (itv S (sPl S t)) (sPl S pj) (lnv S (sPl S t)) else 0) := by simp only [hldF]; rw [if_neg c_8]; exact (by by_cases e9 : kdv S (sPl S t) = 2; (rw [if_pos ⟨ez6, e9, hf_11⟩, if_pos e9]; try rfl); (rw [if_neg (fun q9 => e9 q9.2.1), if_neg e9]; try rfl))
              exact ih (t + 1) _ _ _ ⟨by omega, hI, hS, lv_sub hl [3, 4, 1, 0] (by rw [hst]; rfl)⟩ (by omega)
            · refine W.eq (g2 := F0 m 66 ls [.int 0]) rfl ?_
              refine lv_if_eq (tgt := 78) hx hb dX3_held_66 (by decide) (fun _ => ?_) (fun c => absurd c (by decide))
              refine lv_iinc (v := nI (t + 1)) (lv' := [(4, .int (nI (t + 1))), (5, .ref (aR D (sPl S t))), (0, .ref (aH D)), (2, .ref (aR D (sPl S pj))), (3, .int (nI (hldF S (sPl S pj) t)))]) hx hb dX3_held_78 hl (k := 4) rfl (nI_1 _) (by decide) rfl (fun ls hl => ?_)
              refine lv_goto (tgt := 28) hx hb dX3_held_81 (by decide) ?_
              have hst : hldF S (sPl S pj) (t + 1) = hldF S (sPl S pj) t := by simp only [hldF]; rw [if_neg c_8, if_neg (fun q9 => hf_11 q9.2.2)]; try rfl
              exact ih (t + 1) _ _ _ ⟨by omega, hI, hS, lv_sub hl [2, 3, 4, 0] (by rw [hst]; rfl)⟩ (by omega)
          · have c_8 : sPl S t = sPl S pj := (hR.pl_inj (hW.1 t) (hW.1 pj)).mp c_8
            refine lv_iinc (v := nI (hldF S (sPl S pj) t + 1)) (lv' := [(3, .int (nI (hldF S (sPl S pj) t + 1))), (5, .ref (aR D (sPl S t))), (0, .ref (aH D)), (2, .ref (aR D (sPl S pj))), (4, .int (nI t))]) hx hb dX3_held_50 hl (k := 3) rfl (nI_1 _) (by decide) rfl (fun ls hl => ?_)
            refine lv_aload hx hb dX3_held_53 (lv_at hl 1 rfl) ?_
            refine lv_ifnull hx hb dX3_held_55 ?_
            refine lv_aload_n hx hb dX3_held_58 rfl (lv_at hl 2 rfl) ?_
            refine lv_aload hx hb dX3_held_59 (lv_at hl 1 rfl) ?_
            refine lv_iload hx hb dX3_held_61 (lv_at hl 4 rfl) ?_
            refine ca_V (As := [.ref (aR D (sPl S t)), .int (nI t)]) (rest := []) (r0 := (RX3, TX3, 2)) (ci := 2) ⟨hx, hb, hml, hown, hts⟩ (cc_X3_isFirstHeldAt l E A _ (by omega) ez6 hW hR) (cwV 2 hts gX3_held_X3_isFirstHeldAt rfl rfl rfl (by decide +kernel) ⟨(Nat.le_of_ble_eq_true rfl), (Nat.le_of_ble_eq_true rfl)⟩) hT hI hA hS rfl hR.1 rfl rfl hl.1 (Nat.le_of_ble_eq_true rfl) dX3_held_63 ⟨(Nat.le_of_ble_eq_true rfl), (Nat.le_of_ble_eq_true rfl)⟩ (fun r w_15 H locs hp_14 hI hS => ?_)
            obtain ⟨rfl, ⟨hf_16, rfl⟩ | ⟨hf_16, rfl⟩⟩ := hp_14
            · refine W.eq (g2 := F0 m 66 ls [.int 1]) rfl ?_
              refine lv_if_eq (tgt := 78) hx hb dX3_held_66 (by decide) (fun c => absurd c (by decide)) (fun _ => ?_)
              refine lv_iload_n hx hb dX3_held_69 rfl (lv_at hl 0 rfl) ?_
              refine lv_aload hx hb dX3_held_70 (lv_at hl 1 rfl) ?_
              refine lv_aload_n hx hb dX3_held_72 rfl (lv_at hl 3 rfl) ?_
              refine ca_V (As := [.ref (aR D (sPl S pj))]) (rest := [.int (nI (hldF S (sPl S pj) t + 1))]) (r0 := (RX1, TX1, 4)) (ci := 0) ⟨hx, hb, hml, hown, hts⟩ (cc_X1_countOf l E A _ (aR D (sPl S pj)) (by have := hW.ln hv6; show (if _ then 0 else lnv S (sPl S t)) < 2 ^ 30; split <;> omega) (hR.2.2.1 _ hv6).1 (hR.2.2.1 _ hv6).2.2) (cwV 1 hts gX3_held_X1_countOf rfl rfl rfl (by decide +kernel) ⟨(Nat.le_of_ble_eq_true rfl), (Nat.le_of_ble_eq_true rfl)⟩) hT hI hA hS rfl (hR.2.2.1 _ hv6).1 rfl rfl hl.1 (Nat.le_of_ble_eq_true rfl) dX3_held_73 ⟨(Nat.le_of_ble_eq_true rfl), (Nat.le_of_ble_eq_true rfl)⟩ (fun r w_18 H locs hp_17 hI hS => ?_)
              obtain ⟨rfl, rfl⟩ := hp_17
              rw [hR.count hW hv6 hv4 ez4]
              refine W.eq (g2 := F0 m 76 ls [.int (nI (if kdv S (sPl S t) = 2 then cntI (itv S (sPl S t)) (sPl S pj) (lnv S (sPl S t)) else 0)), .int (nI (hldF S (sPl S pj) t + 1))]) rfl ?_
              refine lv_iadd hx hb dX3_held_76 ?_
              refine W.eq (g2 := F0 m 77 ls [.int (nI ((hldF S (sPl S pj) t + 1) + (if kdv S (sPl S t) = 2 then cntI (itv S (sPl S t)) (sPl S pj) (lnv S (sPl S t)) else 0)))]) (by rw [show (nI (hldF S (sPl S pj) t + 1) : Int32) + nI (if kdv S (sPl S t) = 2 then cntI (itv S (sPl S t)) (sPl S pj) (lnv S (sPl S t)) else 0) = nI ((hldF S (sPl S pj) t + 1) + (if kdv S (sPl S t) = 2 then cntI (itv S (sPl S t)) (sPl S pj) (lnv S (sPl S t)) else 0)) from nI_add (hldF S (sPl S pj) t + 1) (if kdv S (sPl S t) = 2 then cntI (itv S (sPl S t)) (sPl S pj) (lnv S (sPl S t)) else 0)]) ?_
              refine lv_istore_n (lv' := [(3, .int (nI ((hldF S (sPl S pj) t + 1) + (if kdv S (sPl S t) = 2 then cntI (itv S (sPl S t)) (sPl S pj) (lnv S (sPl S t)) else 0)))), (5, .ref (aR D (sPl S t))), (0, .ref (aH D)), (2, .ref (aR D (sPl S pj))), (4, .int (nI t))]) hx hb dX3_held_77 rfl hl (by decide) rfl (fun ls hl => ?_)
              refine lv_iinc (v := nI (t + 1)) (lv' := [(4, .int (nI (t + 1))), (3, .int (nI ((hldF S (sPl S pj) t + 1) + (if kdv S (sPl S t) = 2 then cntI (itv S (sPl S t)) (sPl S pj) (lnv S (sPl S t)) else 0)))), (5, .ref (aR D (sPl S t))), (0, .ref (aH D)), (2, .ref (aR D (sPl S pj)))]) hx hb dX3_held_78 hl (k := 4) rfl (nI_1 _) (by decide) rfl (fun ls hl => ?_)
              refine lv_goto (tgt := 28) hx hb dX3_held_81 (by decide) ?_
              have hst : hldF S (sPl S pj) (t + 1) = (hldF S (sPl S pj) t + 1) + (if kdv S (sPl S t) = 2 then cntI (itv S (sPl S t)) (sPl S pj) (lnv S (sPl S t)) else 0) := by simp only [hldF]; rw [if_pos c_8]; exact (by by_cases e9 : kdv S (sPl S t) = 2; (rw [if_pos ⟨ez6, e9, hf_16⟩, if_pos e9]; try rfl); (rw [if_neg (fun q9 => e9 q9.2.1), if_neg e9]; try rfl))
              exact ih (t + 1) _ _ _ ⟨by omega, hI, hS, lv_sub hl [3, 4, 1, 0] (by rw [hst]; rfl)⟩ (by omega)
            · refine W.eq (g2 := F0 m 66 ls [.int 0]) rfl ?_
              refine lv_if_eq (tgt := 78) hx hb dX3_held_66 (by decide) (fun _ => ?_) (fun c => absurd c (by decide))
              refine lv_iinc (v := nI (t + 1)) (lv' := [(4, .int (nI (t + 1))), (3, .int (nI (hldF S (sPl S pj) t + 1))), (5, .ref (aR D (sPl S t))), (0, .ref (aH D)), (2, .ref (aR D (sPl S pj)))]) hx hb dX3_held_78 hl (k := 4) rfl (nI_1 _) (by decide) rfl (fun ls hl => ?_)
              refine lv_goto (tgt := 28) hx hb dX3_held_81 (by decide) ?_
              have hst : hldF S (sPl S pj) (t + 1) = hldF S (sPl S pj) t + 1 := by simp only [hldF]; rw [if_pos c_8, if_neg (fun q9 => hf_16 q9.2.2)]; try rfl
              exact ih (t + 1) _ _ _ ⟨by omega, hI, hS, lv_sub hl [3, 4, 1, 0] (by rw [hst]; rfl)⟩ (by omega)

set_option maxHeartbeats 4000000 in
set_option maxRecDepth 100000 in
theorem cc_J9_floorMod_7cf53 (l : Launch) (E : En) (A : Nat → Prop) (w : Wd) (x y : Int32) (hy : ¬ y = 0) : Ct l yJ9_floorMod_7cf53 wsJ9_floorMod_7cf53 ({ frames := 0, cells := 0, slots := 0, locals := 0 } : Room) E A w [.int x, .int y] (fun r w' => w = w' ∧ r = some (.int (if ¬ 0 ≤ (x ^^^ y) ∧ ¬ x - x / y * y = 0 then x - x / y * y + y else x - x / y * y))) 0 0 := by
  refine va_MetF (cc := cJ9_floorMod_7cf53) (maxL := 3) (ret := (some .int)) (by decide +kernel) rfl ?_
  intro pp0 ee0 s m args below meth cc0 s₁ B hml hv
  obtain ⟨rfl, hT, hI, hA⟩ := hv
  have hx := B.exec
  have hb := B.bytes
  have hr := B.returns
  have hts := atoms_spec (ws := wsJ9_floorMod_7cf53) B.pre
  have hown : s.vm.findClass RJ9 = some m.cls := findClass_of_methodNamed B.named
  have hlocks := B.notSynchronized
  have hS : va_S A s.heap s.heap [] := va_S.rf
  have hl := lv_entry ([.int x, .int y]) (n := 3) (Nat.le_of_ble_eq_true rfl)
  rw [lg_entry_eq]
  generalize (lg_sl ([.int x, .int y]) ++ List.replicate (3 - (lg_sl ([.int x, .int y])).length) Slot.unset).toArray = ls at hl ⊢
  have hl : lv_has ls 3 [(0, .int x), (1, .int y)] := hl
  refine lv_iload_n hx hb dJ9_floorMod_7cf53_0 rfl (lv_at hl 0 rfl) ?_
  refine lv_iload_n hx hb dJ9_floorMod_7cf53_1 rfl (lv_at hl 1 rfl) ?_
  refine lv_irem hx hb dJ9_floorMod_7cf53_2 (hy) ?_
  refine lv_istore_n (lv' := [(2, .int (x - x / y * y)), (0, .int x), (1, .int y)]) hx hb dJ9_floorMod_7cf53_3 rfl hl (by decide) rfl (fun ls hl => ?_)
  refine lv_iload_n hx hb dJ9_floorMod_7cf53_4 rfl (lv_at hl 1 rfl) ?_
  refine lv_iload_n hx hb dJ9_floorMod_7cf53_5 rfl (lv_at hl 2 rfl) ?_
  refine lv_ixor hx hb dJ9_floorMod_7cf53_6 ?_
  refine lv_if_ge (tgt := 18) hx hb dJ9_floorMod_7cf53_7 (by decide) (fun c_1 => ?_) (fun c_1 => ?_)
  · refine lv_iload_n hx hb dJ9_floorMod_7cf53_18 rfl (lv_at hl 0 rfl) ?_
    exact re_i hx hb hr hlocks hT hA hS hI (⟨rfl, by rw [if_neg (fun q9 => q9.1 c_1)]⟩) (Nat.le_of_ble_eq_true rfl) (Nat.le_of_ble_eq_true rfl) dJ9_floorMod_7cf53_19
  · refine lv_iload_n hx hb dJ9_floorMod_7cf53_10 rfl (lv_at hl 0 rfl) ?_
    refine lv_if_eq (tgt := 18) hx hb dJ9_floorMod_7cf53_11 (by decide) (fun c_2 => ?_) (fun c_2 => ?_)
    · refine lv_iload_n hx hb dJ9_floorMod_7cf53_18 rfl (lv_at hl 0 rfl) ?_
      exact re_i hx hb hr hlocks hT hA hS hI (⟨rfl, by rw [if_neg (fun q9 => q9.2 c_2)]⟩) (Nat.le_of_ble_eq_true rfl) (Nat.le_of_ble_eq_true rfl) dJ9_floorMod_7cf53_19
    · refine lv_iload_n hx hb dJ9_floorMod_7cf53_14 rfl (lv_at hl 0 rfl) ?_
      refine lv_iload_n hx hb dJ9_floorMod_7cf53_15 rfl (lv_at hl 2 rfl) ?_
      refine lv_iadd hx hb dJ9_floorMod_7cf53_16 ?_
      exact re_i hx hb hr hlocks hT hA hS hI (⟨rfl, by rw [if_pos ⟨c_1, c_2⟩]⟩) (Nat.le_of_ble_eq_true rfl) (Nat.le_of_ble_eq_true rfl) dJ9_floorMod_7cf53_17

theorem okW.up {w : Wd} {o : Option Nat} {a : Nat} {E : En} {z : Nat} {g : Nat → Option Nat} {x : va_E} (h : okW w o) (ha : w a = some (eP E z g)) : okW (va_up w a (some x)) o := by
  intro b e
  rcases h b e with ⟨c, n, h⟩ | ⟨k, l, y, z, h⟩
  · have hne : b ≠ a := fun q => by rw [q, ha] at h; cases h
    exact Or.inl ⟨c, n, by rw [va_up_ne _ _ hne]; exact h⟩
  · have hne : b ≠ a := fun q => by rw [q, ha] at h; cases h
    exact Or.inr ⟨k, l, y, z, by rw [va_up_ne _ _ hne]; exact h⟩

set_option maxHeartbeats 4000000 in
set_option maxRecDepth 100000 in
theorem cc_X3_rotate (l : Launch) (E : En) (A : Nat → Prop) (w : Wd) {S : Sx} {D : Ad} (p b : Int32) (hW : Wf S) (hR : Rp E S D w) (hb9 : sNr S < 512 ∧ sNt S < 512 ∧ sNl S < 512) : Ct l yX3_rotate wsX3_rotate ({ frames := 4, cells := 3, slots := 44, locals := 86 } : Room) E A w [.ref (aH D), .int p, .int b] (fun r w' => PoC E D (sp_rotate S p b) r w') 3 44 := by
  refine Met.ofW (cc := cX3_rotate) (maxL := 6) (ret := (some .int)) (by decide) rfl ?_
  intro pp0 ee0 s m args below meth cc0 s₁ B hml hv
  obtain ⟨rfl, hT, hI, hA⟩ := hv
  have hx := B.exec
  have hb := B.bytes
  have hr := B.returns
  have hts := atoms_spec (ws := wsX3_rotate) B.pre
  have hown : s.vm.findClass RX3 = some m.cls := findClass_of_methodNamed B.named
  have hlocks := B.notSynchronized
  have in_X1 : ∀ w ∈ wsX10, w ∈ wsX3_rotate := by decide +kernel
  have hS : va_S A s.heap s.heap [] := va_S.rf
  have hl := lv_entry ([.ref (aH D), .int p, .int b]) (n := 6) (Nat.le_of_ble_eq_true rfl)
  rw [lg_entry_eq]
  generalize (lg_sl ([.ref (aH D), .int p, .int b]) ++ List.replicate (6 - (lg_sl ([.ref (aH D), .int p, .int b])).length) Slot.unset).toArray = ls at hl ⊢
  have hl : lv_has ls 6 [(0, .ref (aH D)), (1, .int p), (2, .int b)] := hl
  refine lv_iload_n hx hb dX3_rotate_0 rfl (lv_at hl 1 rfl) ?_
  refine ca_S (As := [.int p]) (rest := []) ⟨hx, hb, hml, hown, hts⟩ (cc_X3_isOutside l E A _ p) (va_cwS 1 hts gX3_rotate_X3_isOutside rfl rfl rfl (by decide +kernel) ⟨(Nat.le_of_ble_eq_true rfl), (Nat.le_of_ble_eq_true rfl)⟩) hT hI hA hS rfl rfl hl.1 (Nat.le_of_ble_eq_true rfl) dX3_rotate_1 ⟨(Nat.le_of_ble_eq_true rfl), (Nat.le_of_ble_eq_true rfl)⟩ (fun r w_2 H locs hp_1 hI hS => ?_)
  obtain ⟨rfl, ⟨ho_3, rfl⟩ | ⟨ho_3, rfl⟩⟩ := hp_1
  · refine W.eq (g2 := F0 m 4 ls [.int 1]) rfl ?_
    refine lv_if_eq (tgt := 10) hx hb dX3_rotate_4 (by decide) (fun c => absurd c (by decide)) (fun _ => ?_)
    refine lv_ldc (v := -2000000001) hx hb hown (hts (.constant RX3 23 (-2000000001)) (by decide +kernel)) dX3_rotate_7 ?_
    exact re_i hx hb hr hlocks hT hA hS hI (PoC.of (by
            unfold sp_rotate
            rw [if_pos (ho_3)]
            try rfl) hR rfl) (Nat.le_of_ble_eq_true rfl) (Nat.le_of_ble_eq_true rfl) dX3_rotate_9
  · refine W.eq (g2 := F0 m 4 ls [.int 0]) rfl ?_
    refine lv_if_eq (tgt := 10) hx hb dX3_rotate_4 (by decide) (fun _ => ?_) (fun c => absurd c (by decide))
    refine lv_aload_n hx hb dX3_rotate_10 rfl (lv_at hl 0 rfl) ?_
    refine lv_iload_n hx hb dX3_rotate_11 rfl (lv_at hl 1 rfl) ?_
    refine lv_bipush (v := 63) hx hb dX3_rotate_12 (by decide) ?_
    obtain ⟨pj, hpj, rfl⟩ := isP_nat ho_3
    refine ca_V (As := [.int (nI pj), .int 63]) (rest := []) (r0 := (RX3, TX3, 2)) (ci := 2) ⟨hx, hb, hml, hown, hts⟩ (cc_X3_rowOf l E A _ (by omega) msk63 hW hR) (cwV 2 hts gX3_rotate_X3_rowOf rfl rfl rfl (by decide +kernel) ⟨(Nat.le_of_ble_eq_true rfl), (Nat.le_of_ble_eq_true rfl)⟩) hT hI hA hS rfl hR.1 rfl rfl hl.1 (Nat.le_of_ble_eq_true rfl) dX3_rotate_14 ⟨(Nat.le_of_ble_eq_true rfl), (Nat.le_of_ble_eq_true rfl)⟩ (fun r w_5 H locs hp_4 hI hS => ?_)
    rcases hp_4 with ⟨ez6, rfl, hR⟩ | ⟨ez6, hv6, hk6, rfl, hR⟩ | ⟨ez6, hv6, hk6, rfl, hR⟩
    · refine W.eq (g2 := F0 m 17 ls [.null]) rfl ?_
      refine lv_astore_nN (lv' := [(3, .null), (0, .ref (aH D)), (1, .int (nI pj)), (2, .int b)]) hx hb dX3_rotate_17 rfl hl (by decide) rfl (fun ls hl => ?_)
      refine lv_aload_nN hx hb dX3_rotate_18 rfl (lv_at hl 0 rfl) ?_
      refine lv_ifnonnullN hx hb dX3_rotate_19 ?_
      refine lv_iconst (v := 0) hx hb dX3_rotate_22 (by decide) ?_
      exact re_i hx hb hr hlocks hT hA hS hI (PoC.of (by
                unfold sp_rotate
                try simp only [pv_nI hpj]
                rw [if_neg (ho_3), if_pos (ez6)]
                try rfl) hR rfl) (Nat.le_of_ble_eq_true rfl) (Nat.le_of_ble_eq_true rfl) dX3_rotate_23
    · refine W.eq (g2 := F0 m 17 ls [.null]) rfl ?_
      refine lv_astore_nN (lv' := [(3, .null), (0, .ref (aH D)), (1, .int (nI pj)), (2, .int b)]) hx hb dX3_rotate_17 rfl hl (by decide) rfl (fun ls hl => ?_)
      refine lv_aload_nN hx hb dX3_rotate_18 rfl (lv_at hl 0 rfl) ?_
      refine lv_ifnonnullN hx hb dX3_rotate_19 ?_
      refine lv_iconst (v := 0) hx hb dX3_rotate_22 (by decide) ?_
      exact re_i hx hb hr hlocks hT hA hS hI (PoC.of (by
                unfold sp_rotate
                try simp only [pv_nI hpj]
                rw [if_neg (ho_3), if_neg (ez6), if_pos ((Classical.not_not.mp hk6))]
                try rfl) hR rfl) (Nat.le_of_ble_eq_true rfl) (Nat.le_of_ble_eq_true rfl) dX3_rotate_23
    · have hln6 := hW.ln hv6
      have hr6 : vR S (sPl S pj) := vO_row hv6 hk6
      refine W.eq (g2 := F0 m 17 ls [.ref (aR D (sPl S pj))]) rfl ?_
      refine lv_astore_n (lv' := [(3, .ref (aR D (sPl S pj))), (0, .ref (aH D)), (1, .int (nI pj)), (2, .int b)]) hx hb dX3_rotate_17 rfl hl (by decide) rfl (fun ls hl => ?_)
      refine lv_aload_n hx hb dX3_rotate_18 rfl (lv_at hl 0 rfl) ?_
      refine lv_ifnonnull (tgt := 24) hx hb dX3_rotate_19 (by decide) ?_
      refine lv_aload_n hx hb dX3_rotate_24 rfl (lv_at hl 0 rfl) ?_
      refine wr_get (ci := 0) (C := RX1) (T := TX1) (N := 4) (v := .int (nI (lnv S (sPl S pj)))) hx hb hts in_X1 hown hT hI (hR.2.2.1 _ hv6).1 rfl 1 (by decide) (hts (.fieldLink RX3 43 "CopyRows$Row" "length" "I") (by decide +kernel)) rfl dX3_rotate_25 ?_
      refine lv_if_ne (tgt := 38) hx hb dX3_rotate_28 (by decide) (fun c_7 => ?_) (fun c_7 => ?_)
      · have c_7 : ¬ lnv S (sPl S pj) = 0 := fun q => c_7 ((nI_eq (a := lnv S (sPl S pj)) (b := 0) (by omega) (by omega)).mpr q)
        have h0 : 0 < lnv S (sPl S pj) := Nat.pos_of_ne_zero c_7
        have hln9 := hW.ln hv6
        by_cases hkn : isN (kdv S (sPl S pj))
        · refine lv_iload_n hx hb dX3_rotate_38 rfl (lv_at hl 3 rfl) ?_
          refine lv_aload_n hx hb dX3_rotate_39 rfl (lv_at hl 0 rfl) ?_
          refine wr_get (ci := 0) (C := RX1) (T := TX1) (N := 4) (v := .int (nI (lnv S (sPl S pj)))) hx hb hts in_X1 hown hT hI (hR.2.2.1 _ hv6).1 rfl 1 (by decide) (hts (.fieldLink RX3 43 "CopyRows$Row" "length" "I") (by decide +kernel)) rfl dX3_rotate_40 ?_
          refine ca_S (As := [.int b, .int (nI (lnv S (sPl S pj)))]) (rest := []) ⟨hx, hb, hml, hown, hts⟩ (cc_J9_floorMod_7cf53 l E A _ b (nI (lnv S (sPl S pj))) (nI_ne0 h0 (by omega))) (va_cwS 2 hts gX3_rotate_J9_floorMod_7cf53 rfl rfl rfl (by decide +kernel) ⟨(Nat.le_of_ble_eq_true rfl), (Nat.le_of_ble_eq_true rfl)⟩) hT hI hA hS rfl rfl hl.1 (Nat.le_of_ble_eq_true rfl) dX3_rotate_43 ⟨(Nat.le_of_ble_eq_true rfl), (Nat.le_of_ble_eq_true rfl)⟩ (fun r w_9 H locs hp_8 hI hS => ?_)
          obtain ⟨rfl, rfl⟩ := hp_8
          rw [fl_mod h0 hln9]
          have hst := rotI_lt (b := b) h0
          generalize hsq : rotI b (lnv S (sPl S pj)) = st at hst ⊢
          refine W.eq (g2 := F0 m 46 ls [.int (nI st)]) rfl ?_
          refine lv_istore (lv' := [(4, .int (nI st)), (3, .ref (aR D (sPl S pj))), (0, .ref (aH D)), (1, .int (nI pj)), (2, .int b)]) hx hb dX3_rotate_46 hl (by decide) rfl (fun ls hl => ?_)
          refine lv_aload_n hx hb dX3_rotate_48 rfl (lv_at hl 1 rfl) ?_
          refine lv_iconst (v := 0) hx hb dX3_rotate_49 (by decide) ?_
          refine lv_aload_n hx hb dX3_rotate_50 rfl (lv_at hl 1 rfl) ?_
          refine wr_get (ci := 0) (C := RX1) (T := TX1) (N := 4) (v := .int (nI (lnv S (sPl S pj)))) hx hb hts in_X1 hown hT hI (hR.2.2.1 _ hv6).1 rfl 1 (by decide) (hts (.fieldLink RX3 43 "CopyRows$Row" "length" "I") (by decide +kernel)) rfl dX3_rotate_51 ?_
          refine ca_V (As := [.int 0, .int (nI (lnv S (sPl S pj)))]) (rest := []) (r0 := (RX1, TX1, 4)) (ci := 0) ⟨hx, hb, hml, hown, hts⟩ (cc_X1_cut_n l E A _ (z := lnv S (sPl S pj)) 0 (lnv S (sPl S pj)) (by omega) (by omega) (by omega) hkn (hR.2.2.1 _ hv6).1 (hR.num hv6 hkn)) (cwV 2 hts gX3_rotate_X1_cut rfl rfl rfl (by decide +kernel) ⟨(Nat.le_of_ble_eq_true rfl), (Nat.le_of_ble_eq_true rfl)⟩) hT hI hA hS rfl (hR.2.2.1 _ hv6).1 rfl rfl hl.1 (Nat.le_of_ble_eq_true rfl) dX3_rotate_54 ⟨(Nat.le_of_ble_eq_true rfl), (Nat.le_of_ble_eq_true rfl)⟩ (fun r w_11 H locs hp_10 hI hS => ?_)
          obtain ⟨q, qn, qp, rfl, hNq⟩ := hp_10
          have hR0 := hR
          have hR := hR0.sub (w' := w_11) (fun a9 x9 h9 => hNq.keeps h9)
          refine W.eq (g2 := F0 m 57 ls [.ref q]) rfl ?_
          refine lv_astore (lv' := [(5, .ref q), (4, .int (nI st)), (3, .ref (aR D (sPl S pj))), (0, .ref (aH D)), (1, .int (nI pj)), (2, .int b)]) hx hb dX3_rotate_57 hl (by decide) rfl (fun ls hl => ?_)
          refine lv_aload_n hx hb dX3_rotate_59 rfl (lv_at hl 2 rfl) ?_
          refine lv_aload hx hb dX3_rotate_60 (lv_at hl 0 rfl) ?_
          refine lv_iconst (v := 0) hx hb dX3_rotate_62 (by decide) ?_
          refine lv_iload hx hb dX3_rotate_63 (lv_at hl 1 rfl) ?_
          refine lv_aload_n hx hb dX3_rotate_65 rfl (lv_at hl 2 rfl) ?_
          refine wr_get (ci := 0) (C := RX1) (T := TX1) (N := 4) (v := .int (nI (lnv S (sPl S pj)))) hx hb hts in_X1 hown hT hI (hR.2.2.1 _ hv6).1 rfl 1 (by decide) (hts (.fieldLink RX3 43 "CopyRows$Row" "length" "I") (by decide +kernel)) rfl dX3_rotate_66 ?_
          refine lv_iload hx hb dX3_rotate_69 (lv_at hl 1 rfl) ?_
          refine lv_isub hx hb dX3_rotate_71 ?_
          refine W.eq (g2 := F0 m 72 ls [.int (nI ((lnv S (sPl S pj)) - st)), .int (nI st), .int 0, .ref q, .ref (aR D (sPl S pj))]) (by rw [show (nI (lnv S (sPl S pj)) : Int32) - nI st = nI (lnv S (sPl S pj) - st) from pk_sub (by omega)]) ?_
          refine ca_V (As := [.ref q, .int 0, .int (nI st), .int (nI ((lnv S (sPl S pj)) - st))]) (rest := []) (r0 := (RX1, TX1, 4)) (ci := 0) ⟨hx, hb, hml, hown, hts⟩ (cc_X1_take_n l E A _ (z := lnv S (sPl S pj)) (z1 := lnv S (sPl S pj)) (f := (va_cpy (itv S (sPl S pj)) (fun _ => 0) 0 0 (lnv S (sPl S pj)))) (g := (itv S (sPl S pj))) 0 st (lnv S (sPl S pj) - st) (by omega) (by omega) (by omega) (by omega) hkn (hR.2.2.1 _ hv6).1 hNq.2.2.2.2.2.2.1 (hR.num hv6 hkn) hNq.2.2.2.2.2.2.2.1) (cwV 4 hts gX3_rotate_X1_take rfl rfl rfl (by decide +kernel) ⟨(Nat.le_of_ble_eq_true rfl), (Nat.le_of_ble_eq_true rfl)⟩) hT hI hA hS rfl (hR.2.2.1 _ hv6).1 rfl rfl hl.1 (Nat.le_of_ble_eq_true rfl) dX3_rotate_72 ⟨(Nat.le_of_ble_eq_true rfl), (Nat.le_of_ble_eq_true rfl)⟩ (fun r w_13 H locs hp_12 hI hS => ?_)
          obtain ⟨rfl, rfl⟩ := hp_12
          have hR1 := hR
          have hqne : q ≠ aN D (sPl S pj) := (nw_ne ((hR0.num hv6 hkn)) hNq.1).symm
          have hane : qn ≠ aN D (sPl S pj) := (nw_ne ((hR0.num hv6 hkn)) hNq.2.1).symm
          have hR := hR1.numW (v := sPl S pj) hr6 hkn (va_cpy (va_cpy (itv S (sPl S pj)) (fun _ => 0) 0 0 (lnv S (sPl S pj))) (itv S (sPl S pj)) 0 st (lnv S (sPl S pj) - st))
          refine W.eq (g2 := F0 m 75 ls []) rfl ?_
          refine lv_aload_n hx hb dX3_rotate_75 rfl (lv_at hl 2 rfl) ?_
          refine lv_aload hx hb dX3_rotate_76 (lv_at hl 0 rfl) ?_
          refine lv_aload_n hx hb dX3_rotate_78 rfl (lv_at hl 2 rfl) ?_
          refine wr_get (ci := 0) (C := RX1) (T := TX1) (N := 4) (v := .int (nI (lnv S (sPl S pj)))) hx hb hts in_X1 hown hT hI (hR.2.2.1 _ hv6).1 rfl 1 (by decide) (hts (.fieldLink RX3 43 "CopyRows$Row" "length" "I") (by decide +kernel)) rfl dX3_rotate_79 ?_
          refine lv_iload hx hb dX3_rotate_82 (lv_at hl 1 rfl) ?_
          refine lv_isub hx hb dX3_rotate_84 ?_
          refine W.eq (g2 := F0 m 85 ls [.int (nI ((lnv S (sPl S pj)) - st)), .ref q, .ref (aR D (sPl S pj))]) (by rw [show (nI (lnv S (sPl S pj)) : Int32) - nI st = nI (lnv S (sPl S pj) - st) from pk_sub (by omega)]) ?_
          refine lv_iconst (v := 0) hx hb dX3_rotate_85 (by decide) ?_
          refine lv_iload hx hb dX3_rotate_86 (lv_at hl 1 rfl) ?_
          refine ca_V (As := [.ref q, .int (nI ((lnv S (sPl S pj)) - st)), .int 0, .int (nI st)]) (rest := []) (r0 := (RX1, TX1, 4)) (ci := 0) ⟨hx, hb, hml, hown, hts⟩ (cc_X1_take_n l E A _ (z := lnv S (sPl S pj)) (z1 := lnv S (sPl S pj)) (f := (va_cpy (itv S (sPl S pj)) (fun _ => 0) 0 0 (lnv S (sPl S pj)))) (g := (va_cpy (va_cpy (itv S (sPl S pj)) (fun _ => 0) 0 0 (lnv S (sPl S pj))) (itv S (sPl S pj)) 0 st (lnv S (sPl S pj) - st))) (lnv S (sPl S pj) - st) 0 st (by omega) (by omega) (by omega) (by omega) hkn (hR.2.2.1 _ hv6).1 ((va_up_ne _ _ hqne).trans hNq.2.2.2.2.2.2.1) (va_up_self _ _ _) ((va_up_ne _ _ hane).trans hNq.2.2.2.2.2.2.2.1)) (cwV 4 hts gX3_rotate_X1_take rfl rfl rfl (by decide +kernel) ⟨(Nat.le_of_ble_eq_true rfl), (Nat.le_of_ble_eq_true rfl)⟩) hT hI hA hS rfl (hR.2.2.1 _ hv6).1 rfl rfl hl.1 (Nat.le_of_ble_eq_true rfl) dX3_rotate_88 ⟨(Nat.le_of_ble_eq_true rfl), (Nat.le_of_ble_eq_true rfl)⟩ (fun r w_15 H locs hp_14 hI hS => ?_)
          obtain ⟨rfl, rfl⟩ := hp_14
          rw [bx_uu, rot_cpy hst] at hI
          have hR := hR1.numW (v := sPl S pj) hr6 hkn (rotF (itv S (sPl S pj)) (lnv S (sPl S pj)) st)
          refine W.eq (g2 := F0 m 91 ls []) rfl ?_
          refine lv_iload hx hb dX3_rotate_91 (lv_at hl 1 rfl) ?_
          exact re_i hx hb hr hlocks hT hA hS hI (PoC.of (by
                        unfold sp_rotate
                        try simp only [pv_nI hpj]
                        rw [if_neg (ho_3), if_neg (ez6), if_neg (hk6), if_neg (c_7)]
                        rw [hsq]
                        try rfl) hR rfl) (Nat.le_of_ble_eq_true rfl) (Nat.le_of_ble_eq_true rfl) dX3_rotate_93
        · refine lv_iload_n hx hb dX3_rotate_38 rfl (lv_at hl 3 rfl) ?_
          refine lv_aload_n hx hb dX3_rotate_39 rfl (lv_at hl 0 rfl) ?_
          refine wr_get (ci := 0) (C := RX1) (T := TX1) (N := 4) (v := .int (nI (lnv S (sPl S pj)))) hx hb hts in_X1 hown hT hI (hR.2.2.1 _ hv6).1 rfl 1 (by decide) (hts (.fieldLink RX3 43 "CopyRows$Row" "length" "I") (by decide +kernel)) rfl dX3_rotate_40 ?_
          refine ca_S (As := [.int b, .int (nI (lnv S (sPl S pj)))]) (rest := []) ⟨hx, hb, hml, hown, hts⟩ (cc_J9_floorMod_7cf53 l E A _ b (nI (lnv S (sPl S pj))) (nI_ne0 h0 (by omega))) (va_cwS 2 hts gX3_rotate_J9_floorMod_7cf53 rfl rfl rfl (by decide +kernel) ⟨(Nat.le_of_ble_eq_true rfl), (Nat.le_of_ble_eq_true rfl)⟩) hT hI hA hS rfl rfl hl.1 (Nat.le_of_ble_eq_true rfl) dX3_rotate_43 ⟨(Nat.le_of_ble_eq_true rfl), (Nat.le_of_ble_eq_true rfl)⟩ (fun r w_17 H locs hp_16 hI hS => ?_)
          obtain ⟨rfl, rfl⟩ := hp_16
          rw [fl_mod h0 hln9]
          have hst := rotI_lt (b := b) h0
          generalize hsq : rotI b (lnv S (sPl S pj)) = st at hst ⊢
          refine W.eq (g2 := F0 m 46 ls [.int (nI st)]) rfl ?_
          refine lv_istore (lv' := [(4, .int (nI st)), (3, .ref (aR D (sPl S pj))), (0, .ref (aH D)), (1, .int (nI pj)), (2, .int b)]) hx hb dX3_rotate_46 hl (by decide) rfl (fun ls hl => ?_)
          refine lv_aload_n hx hb dX3_rotate_48 rfl (lv_at hl 1 rfl) ?_
          refine lv_iconst (v := 0) hx hb dX3_rotate_49 (by decide) ?_
          refine lv_aload_n hx hb dX3_rotate_50 rfl (lv_at hl 1 rfl) ?_
          refine wr_get (ci := 0) (C := RX1) (T := TX1) (N := 4) (v := .int (nI (lnv S (sPl S pj)))) hx hb hts in_X1 hown hT hI (hR.2.2.1 _ hv6).1 rfl 1 (by decide) (hts (.fieldLink RX3 43 "CopyRows$Row" "length" "I") (by decide +kernel)) rfl dX3_rotate_51 ?_
          refine ca_V (As := [.int 0, .int (nI (lnv S (sPl S pj)))]) (rest := []) (r0 := (RX1, TX1, 4)) (ci := 0) ⟨hx, hb, hml, hown, hts⟩ (cc_X1_cut_p l E A _ (z := lnv S (sPl S pj)) 0 (lnv S (sPl S pj)) (by omega) (by omega) (by omega) hkn (hR.2.2.1 _ hv6).1 (hR.par hv6 hkn) (fun k9 _ => hR.ok hW hr6 hkn _)) (cwV 2 hts gX3_rotate_X1_cut rfl rfl rfl (by decide +kernel) ⟨(Nat.le_of_ble_eq_true rfl), (Nat.le_of_ble_eq_true rfl)⟩) hT hI hA hS rfl (hR.2.2.1 _ hv6).1 rfl rfl hl.1 (Nat.le_of_ble_eq_true rfl) dX3_rotate_54 ⟨(Nat.le_of_ble_eq_true rfl), (Nat.le_of_ble_eq_true rfl)⟩ (fun r w_19 H locs hp_18 hI hS => ?_)
          obtain ⟨q, qn, qp, rfl, hNq⟩ := hp_18
          have hR0 := hR
          have hR := hR0.sub (w' := w_19) (fun a9 x9 h9 => hNq.keeps h9)
          refine W.eq (g2 := F0 m 57 ls [.ref q]) rfl ?_
          refine lv_astore (lv' := [(5, .ref q), (4, .int (nI st)), (3, .ref (aR D (sPl S pj))), (0, .ref (aH D)), (1, .int (nI pj)), (2, .int b)]) hx hb dX3_rotate_57 hl (by decide) rfl (fun ls hl => ?_)
          refine lv_aload_n hx hb dX3_rotate_59 rfl (lv_at hl 2 rfl) ?_
          refine lv_aload hx hb dX3_rotate_60 (lv_at hl 0 rfl) ?_
          refine lv_iconst (v := 0) hx hb dX3_rotate_62 (by decide) ?_
          refine lv_iload hx hb dX3_rotate_63 (lv_at hl 1 rfl) ?_
          refine lv_aload_n hx hb dX3_rotate_65 rfl (lv_at hl 2 rfl) ?_
          refine wr_get (ci := 0) (C := RX1) (T := TX1) (N := 4) (v := .int (nI (lnv S (sPl S pj)))) hx hb hts in_X1 hown hT hI (hR.2.2.1 _ hv6).1 rfl 1 (by decide) (hts (.fieldLink RX3 43 "CopyRows$Row" "length" "I") (by decide +kernel)) rfl dX3_rotate_66 ?_
          refine lv_iload hx hb dX3_rotate_69 (lv_at hl 1 rfl) ?_
          refine lv_isub hx hb dX3_rotate_71 ?_
          refine W.eq (g2 := F0 m 72 ls [.int (nI ((lnv S (sPl S pj)) - st)), .int (nI st), .int 0, .ref q, .ref (aR D (sPl S pj))]) (by rw [show (nI (lnv S (sPl S pj)) : Int32) - nI st = nI (lnv S (sPl S pj) - st) from pk_sub (by omega)]) ?_
          have hokb : ∀ k9, k9 < lnv S (sPl S pj) → okW _ ((va_cpy (fun k9 => pO D (kdv S (sPl S pj)) (itv S (sPl S pj) k9)) (fun _ => none) 0 0 (lnv S (sPl S pj))) k9) := fun k9 h9 => by
            have e9 : (va_cpy (fun k9 => pO D (kdv S (sPl S pj)) (itv S (sPl S pj) k9)) (fun _ => none) 0 0 (lnv S (sPl S pj))) k9 = pO D (kdv S (sPl S pj)) (itv S (sPl S pj) k9) := by unfold va_cpy; rw [if_pos (by omega)]; simp
            rw [e9]; exact hR.ok hW hr6 hkn k9
          refine ca_V (As := [.ref q, .int 0, .int (nI st), .int (nI ((lnv S (sPl S pj)) - st))]) (rest := []) (r0 := (RX1, TX1, 4)) (ci := 0) ⟨hx, hb, hml, hown, hts⟩ (cc_X1_take_p l E A _ (z := lnv S (sPl S pj)) (z1 := lnv S (sPl S pj)) (f := (va_cpy (fun k9 => pO D (kdv S (sPl S pj)) (itv S (sPl S pj) k9)) (fun _ => none) 0 0 (lnv S (sPl S pj)))) (g := (fun k9 => pO D (kdv S (sPl S pj)) (itv S (sPl S pj) k9))) 0 st (lnv S (sPl S pj) - st) (by omega) (by omega) (by omega) (by omega) hkn (hR.2.2.1 _ hv6).1 hNq.2.2.2.2.2.2.1 (hR.par hv6 hkn) hNq.2.2.2.2.2.2.2.2.1 (fun k9 h9 => hokb _ (by omega))) (cwV 4 hts gX3_rotate_X1_take rfl rfl rfl (by decide +kernel) ⟨(Nat.le_of_ble_eq_true rfl), (Nat.le_of_ble_eq_true rfl)⟩) hT hI hA hS rfl (hR.2.2.1 _ hv6).1 rfl rfl hl.1 (Nat.le_of_ble_eq_true rfl) dX3_rotate_72 ⟨(Nat.le_of_ble_eq_true rfl), (Nat.le_of_ble_eq_true rfl)⟩ (fun r w_21 H locs hp_20 hI hS => ?_)
          obtain ⟨rfl, rfl⟩ := hp_20
          have hR1 := hR
          have hqne : q ≠ aQ D (sPl S pj) := (nw_ne ((hR0.par hv6 hkn)) hNq.1).symm
          have hane : qp ≠ aQ D (sPl S pj) := (nw_ne ((hR0.par hv6 hkn)) hNq.2.2.1).symm
          have hgg : va_cpy (va_cpy (fun k9 => pO D (kdv S (sPl S pj)) (itv S (sPl S pj) k9)) (fun _ => none) 0 0 (lnv S (sPl S pj))) (fun k9 => pO D (kdv S (sPl S pj)) (itv S (sPl S pj) k9)) 0 st (lnv S (sPl S pj) - st) = fun k9 => pO D (kdv S (sPl S pj)) (va_cpy (va_cpy (itv S (sPl S pj)) (ini (kdv S (sPl S pj))) 0 0 (lnv S (sPl S pj))) (itv S (sPl S pj)) 0 st (lnv S (sPl S pj) - st) k9) := by
            rw [cpy_ini hkn]; funext k9; unfold va_cpy; split <;> rfl
          have hR := hR1.parW (v := sPl S pj) hr6 hkn (va_cpy (va_cpy (itv S (sPl S pj)) (ini (kdv S (sPl S pj))) 0 0 (lnv S (sPl S pj))) (itv S (sPl S pj)) 0 st (lnv S (sPl S pj) - st)) hgg
          refine W.eq (g2 := F0 m 75 ls []) rfl ?_
          refine lv_aload_n hx hb dX3_rotate_75 rfl (lv_at hl 2 rfl) ?_
          refine lv_aload hx hb dX3_rotate_76 (lv_at hl 0 rfl) ?_
          refine lv_aload_n hx hb dX3_rotate_78 rfl (lv_at hl 2 rfl) ?_
          refine wr_get (ci := 0) (C := RX1) (T := TX1) (N := 4) (v := .int (nI (lnv S (sPl S pj)))) hx hb hts in_X1 hown hT hI (hR.2.2.1 _ hv6).1 rfl 1 (by decide) (hts (.fieldLink RX3 43 "CopyRows$Row" "length" "I") (by decide +kernel)) rfl dX3_rotate_79 ?_
          refine lv_iload hx hb dX3_rotate_82 (lv_at hl 1 rfl) ?_
          refine lv_isub hx hb dX3_rotate_84 ?_
          refine W.eq (g2 := F0 m 85 ls [.int (nI ((lnv S (sPl S pj)) - st)), .ref q, .ref (aR D (sPl S pj))]) (by rw [show (nI (lnv S (sPl S pj)) : Int32) - nI st = nI (lnv S (sPl S pj) - st) from pk_sub (by omega)]) ?_
          refine lv_iconst (v := 0) hx hb dX3_rotate_85 (by decide) ?_
          refine lv_iload hx hb dX3_rotate_86 (lv_at hl 1 rfl) ?_
          have hokb2 : ∀ k9, k9 < lnv S (sPl S pj) → okW _ ((va_cpy (fun k9 => pO D (kdv S (sPl S pj)) (itv S (sPl S pj) k9)) (fun _ => none) 0 0 (lnv S (sPl S pj))) k9) := fun k9 h9 => by
            have e9 : (va_cpy (fun k9 => pO D (kdv S (sPl S pj)) (itv S (sPl S pj) k9)) (fun _ => none) 0 0 (lnv S (sPl S pj))) k9 = pO D (kdv S (sPl S pj)) (itv S (sPl S pj) k9) := by unfold va_cpy; rw [if_pos (by omega)]; simp
            rw [e9]; exact ((hR1.ok hW hr6 hkn k9).up (hR1.par hv6 hkn) (x := eP E (lnv S (sPl S pj)) (va_cpy (va_cpy (fun k9 => pO D (kdv S (sPl S pj)) (itv S (sPl S pj) k9)) (fun _ => none) 0 0 (lnv S (sPl S pj))) (fun k9 => pO D (kdv S (sPl S pj)) (itv S (sPl S pj) k9)) 0 st (lnv S (sPl S pj) - st))))
          refine ca_V (As := [.ref q, .int (nI ((lnv S (sPl S pj)) - st)), .int 0, .int (nI st)]) (rest := []) (r0 := (RX1, TX1, 4)) (ci := 0) ⟨hx, hb, hml, hown, hts⟩ (cc_X1_take_p l E A _ (z := lnv S (sPl S pj)) (z1 := lnv S (sPl S pj)) (f := (va_cpy (fun k9 => pO D (kdv S (sPl S pj)) (itv S (sPl S pj) k9)) (fun _ => none) 0 0 (lnv S (sPl S pj)))) (g := (va_cpy (va_cpy (fun k9 => pO D (kdv S (sPl S pj)) (itv S (sPl S pj) k9)) (fun _ => none) 0 0 (lnv S (sPl S pj))) (fun k9 => pO D (kdv S (sPl S pj)) (itv S (sPl S pj) k9)) 0 st (lnv S (sPl S pj) - st))) (lnv S (sPl S pj) - st) 0 st (by omega) (by omega) (by omega) (by omega) hkn (hR.2.2.1 _ hv6).1 ((va_up_ne _ _ hqne).trans hNq.2.2.2.2.2.2.1) (va_up_self _ _ _) ((va_up_ne _ _ hane).trans hNq.2.2.2.2.2.2.2.2.1) (fun k9 h9 => hokb2 _ (by omega))) (cwV 4 hts gX3_rotate_X1_take rfl rfl rfl (by decide +kernel) ⟨(Nat.le_of_ble_eq_true rfl), (Nat.le_of_ble_eq_true rfl)⟩) hT hI hA hS rfl (hR.2.2.1 _ hv6).1 rfl rfl hl.1 (Nat.le_of_ble_eq_true rfl) dX3_rotate_88 ⟨(Nat.le_of_ble_eq_true rfl), (Nat.le_of_ble_eq_true rfl)⟩ (fun r w_23 H locs hp_22 hI hS => ?_)
          obtain ⟨rfl, rfl⟩ := hp_22
          rw [bx_uu, rot_cpy hst] at hI
          have hR := hR1.parW (v := sPl S pj) hr6 hkn (rotF (itv S (sPl S pj)) (lnv S (sPl S pj)) st) (g := fun k9 => if k9 < lnv S (sPl S pj) then pO D (kdv S (sPl S pj)) (itv S (sPl S pj) ((k9 + (lnv S (sPl S pj) - st)) % lnv S (sPl S pj))) else pO D (kdv S (sPl S pj)) (itv S (sPl S pj) k9)) (by funext k9; unfold rotF; split <;> rfl)
          refine W.eq (g2 := F0 m 91 ls []) rfl ?_
          refine lv_iload hx hb dX3_rotate_91 (lv_at hl 1 rfl) ?_
          exact re_i hx hb hr hlocks hT hA hS hI (PoC.of (by
                        unfold sp_rotate
                        try simp only [pv_nI hpj]
                        rw [if_neg (ho_3), if_neg (ez6), if_neg (hk6), if_neg (c_7)]
                        rw [hsq]
                        try rfl) hR rfl) (Nat.le_of_ble_eq_true rfl) (Nat.le_of_ble_eq_true rfl) dX3_rotate_93
      · have c_7 : lnv S (sPl S pj) = 0 := (nI_eq (a := lnv S (sPl S pj)) (b := 0) (by omega) (by omega)).mp c_7
        refine lv_aload_n hx hb dX3_rotate_31 rfl (lv_at hl 1 rfl) ?_
        refine lv_bipush (v := 6) hx hb dX3_rotate_32 (by decide) ?_
        refine ca_V (As := [.int 6]) (rest := []) (r0 := (RX3, TX3, 2)) (ci := 2) ⟨hx, hb, hml, hown, hts⟩ (cc_X3_fail l E A _ 6 hR) (cwV 1 hts gX3_rotate_X3_fail rfl rfl rfl (by decide +kernel) ⟨(Nat.le_of_ble_eq_true rfl), (Nat.le_of_ble_eq_true rfl)⟩) hT hI hA hS rfl hR.1 rfl rfl hl.1 (Nat.le_of_ble_eq_true rfl) dX3_rotate_34 ⟨(Nat.le_of_ble_eq_true rfl), (Nat.le_of_ble_eq_true rfl)⟩ (fun r w_25 H locs hp_24 hI hS => ?_)
        obtain ⟨rfl, hR⟩ := hp_24
        refine W.eq (g2 := F0 m 37 ls [.int 0]) rfl ?_
        exact re_i hx hb hr hlocks hT hA hS hI (PoC.of (by
                    unfold sp_rotate
                    try simp only [pv_nI hpj]
                    rw [if_neg (ho_3), if_neg (ez6), if_neg (hk6), if_pos (c_7)]
                    try rfl) hR rfl) (Nat.le_of_ble_eq_true rfl) (Nat.le_of_ble_eq_true rfl) dX3_rotate_37

set_option maxHeartbeats 4000000 in
set_option maxRecDepth 100000 in
theorem cc_X3_init (l : Launch) (E : En) (A : Nat → Prop) (w : Wd) {h0 : Nat} {c0 : Int32} {v0 : Value} (hc : w h0 = some (.inr (2, [v0, .int c0]))) : Ct l yX3_init wsX3_init ({ frames := 1, cells := 1, slots := 12, locals := 20 } : Room) E A w [.ref h0] (fun r w' => r = none ∧ ∃ D : Ad, aH D = h0 ∧ Rp E Sz D w' ∧ (∀ a x, a ≠ h0 → w a = some x → w' a = some x)) 1 12 := by
  refine Met.ofW (cc := cX3_init) (maxL := 1) (ret := none) (by decide) rfl ?_
  intro pp0 ee0 s m args below meth cc0 s₁ B hml hv
  obtain ⟨rfl, hT, hI, hA⟩ := hv
  have hx := B.exec
  have hb := B.bytes
  have hr := B.returns
  have hts := atoms_spec (ws := wsX3_init) B.pre
  have hown : s.vm.findClass RX3 = some m.cls := findClass_of_methodNamed B.named
  have hlocks := B.notSynchronized
  have hin : meth.name = "<init>" := (name_of_methodNamed B.named B.method).1
  have in_X3 : ∀ w ∈ wsX30, w ∈ wsX3_init := by decide +kernel
  have hS : va_S A s.heap s.heap [] := va_S.rf
  have hl := lv_entry ([.ref h0]) (n := 1) (Nat.le_of_ble_eq_true rfl)
  rw [lg_entry_eq]
  generalize (lg_sl ([.ref h0]) ++ List.replicate (1 - (lg_sl ([.ref h0])).length) Slot.unset).toArray = ls at hl ⊢
  have hl : lv_has ls 1 [(0, .ref h0)] := hl
  refine lv_aload_n hx hb dX3_init_0 rfl (lv_at hl 0 rfl) ?_
  refine W.objInit hx hb hown (hts (.methodLink RX3 3 objectInit) (by decide +kernel)) (hts (.instanceMethod objectInit) (by decide +kernel)) (hts _ (by decide +kernel)) rfl (by rw [hml]; exact hl.1) rfl dX3_init_1 (Nat.le_of_ble_eq_true rfl) (Nat.le_of_ble_eq_true rfl) ?_
  refine W.eq (g2 := F0 m 4 ls []) rfl ?_
  refine lv_aload_n hx hb dX3_init_4 rfl (lv_at hl 0 rfl) ?_
  refine lv_bipush (v := 12) hx hb dX3_init_5 (by decide) ?_
  refine wr_newq (N := 12) hx hb hown (hts (.classLink RX3 9 RX1) (by decide +kernel)) hT.2.2.1 2 rfl hT hI hS hA (by decide) (by decide) (by decide) (Nat.le_of_ble_eq_true rfl) (Nat.le_of_ble_eq_true rfl) dX3_init_7 (fun pa H hpa hI hS => ?_)
  have hpne : h0 ≠ pa := nw_ne hc hpa
  refine wr_putF (ci := 2) (C := RX3) (T := TX3) (N := 2) (v := .ref pa) (ty := .array (.object "CopyRows$Row")) hx hb hts in_X3 tyX3 tyX3_ok nmX3 hown hT hI hS ((va_up_ne _ _ hpne).trans hc) rfl 0 (by decide) (hts (.fieldLink RX3 11 "CopyRows" "places" "[LCopyRows$Row;") (by decide +kernel)) rfl hin rfl (by decide +kernel) rfl rfl (Nat.le_of_ble_eq_true rfl) dX3_init_10 (fun H locs hI hS => ?_)
  refine lv_aload_n hx hb dX3_init_13 rfl (lv_at hl 0 rfl) ?_
  refine lv_iconst (v := 0) hx hb dX3_init_14 (by decide) ?_
  refine wr_put (ci := 2) (C := RX3) (T := TX3) (N := 2) (v := .int 0) (ty := .int) hx hb hts in_X3 tyX3 tyX3_ok nmX3 hown hT hI hS (va_up_self _ _ _) rfl 1 (by decide) (hts (.fieldLink RX3 15 "CopyRows" "code" "I") (by decide +kernel)) rfl (by decide +kernel) rfl rfl (Nat.le_of_ble_eq_true rfl) dX3_init_15 (fun H locs hI hS => ?_)
  exact re_v hx hb hr hlocks hT hA hS hI (by
        refine ⟨rfl, (h0, pa, fun _ => 0, fun _ => 0, fun _ => 0, fun _ => 0, fun a => if a = h0 then (4, 0) else (5, 0)), rfl, ⟨?_, ?_, fun v hv => ?_, fun v hv => ?_, ?_, ?_, fun v hv => ?_, fun v hv => ?_⟩, ?_⟩
        · exact va_up_self _ _ _
        · show va_up _ _ _ pa = _
          rw [va_up_ne _ _ hpne.symm, va_up_ne _ _ hpne.symm, va_up_self]; rfl
        · exact absurd hv (by rintro (h | h); exact absurd h.2 (Nat.not_lt_zero _); have := h.1; have := h.2; simp [sNl, Sz] at this; omega)
        · exact absurd hv.2 (Nat.not_lt_zero _)
        · exact if_pos rfl
        · exact if_neg hpne.symm
        · exact absurd hv (by rintro (h | h); exact absurd h.2 (Nat.not_lt_zero _); have := h.1; have := h.2; simp [sNl, Sz] at this; omega)
        · exact absurd hv.2 (Nat.not_lt_zero _)
        · intro a x h1 h2
          have h3 : a ≠ pa := nw_ne h2 hpa
          simp [va_up, h1, h3, h2]) (Nat.le_of_ble_eq_true rfl) (Nat.le_of_ble_eq_true rfl) dX3_init_18
