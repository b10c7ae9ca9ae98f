theorem join_fi {S : Sx} (hW : Wf S) {u v : Int32} (hu : vR S u) (hv : vR S v) {n : Nat} (hf : ¬ isN (kdv S v) → ∀ k, k < n → fitS S (kdv S u) (itv S u (0 + k)) (kdv S v)) (m : Nat) : kdv S v = 2 → ∀ k, va_cpy (itv S u) (va_cpy (itv S v) (ini (kdv S v)) 0 0 m) 0 m n k = -1 ∨ vR S (va_cpy (itv S u) (va_cpy (itv S v) (ini (kdv S v)) 0 0 m) 0 m n k) := by
  intro e k
  have hn : ¬ isN (kdv S v) := fun q => (isN_lt q).2 e
  unfold va_cpy
  by_cases h : m ≤ k ∧ k < m + n
  · rw [if_pos h]
    rcases hf hn (k - m) (by omega) with q | ⟨q, -⟩ | ⟨-, q⟩
    · exact Or.inl q
    · rcases (hW.row hu).2.2.1 q (0 + (k - m)) with q | q
      · exact Or.inl q
      · exact Or.inr q.1
    · rw [e] at q
      rcases q with q | ⟨q, -⟩ | ⟨q, -⟩ <;> exact absurd q (by decide)
  · rw [if_neg h]
    by_cases h2 : 0 ≤ k ∧ k < 0 + m
    · rw [if_pos h2]
      rcases (hW.row hv).2.2.1 e (0 + (k - 0)) with q | q
      · exact Or.inl q
      · exact Or.inr q.1
    · rw [if_neg h2, ini_p hn]; exact Or.inl rfl
set_option maxHeartbeats 4000000 in
set_option maxRecDepth 100000 in
theorem cc_X3_copy (l : Launch) (E : En) (A : Nat → Prop) (w : Wd) {S : Sx} {D : Ad} (p o : Int32) (hW : Wf S) (hR : Rp E S D w) (hb9 : sNr S < 512 ∧ sNt S < 512 ∧ sNl S < 512) : Ct l yX3_copy wsX3_copy ({ frames := 4, cells := 3, slots := 44, locals := 86 } : Room) E A w [.ref (aH D), .int p, .int o] (fun r w' => PoC E D (sp_copy S p o) r w') 3 44 := by
  refine Met.ofW (cc := cX3_copy) (maxL := 4) (ret := (some .int)) (by decide) rfl ?_
  intro pp0 ee0 s m args below meth cc0 s₁ B hml hv
  obtain ⟨rfl, hT, hI, hA⟩ := hv
  have hx := B.exec
  have hb := B.bytes
  have hr := B.returns
  have hts := atoms_spec (ws := wsX3_copy) B.pre
  have hown : s.vm.findClass RX3 = some m.cls := findClass_of_methodNamed B.named
  have hlocks := B.notSynchronized
  have in_X1 : ∀ w ∈ wsX10, w ∈ wsX3_copy := by decide +kernel
  have hS : va_S A s.heap s.heap [] := va_S.rf
  have hl := lv_entry ([.ref (aH D), .int p, .int o]) (n := 4) (Nat.le_of_ble_eq_true rfl)
  rw [lg_entry_eq]
  generalize (lg_sl ([.ref (aH D), .int p, .int o]) ++ List.replicate (4 - (lg_sl ([.ref (aH D), .int p, .int o])).length) Slot.unset).toArray = ls at hl ⊢
  have hl : lv_has ls 4 [(0, .ref (aH D)), (1, .int p), (2, .int o)] := hl
  refine lv_iload_n hx hb dX3_copy_0 rfl (lv_at hl 1 rfl) ?_
  refine ca_S (As := [.int p]) (rest := []) ⟨hx, hb, hml, hown, hts⟩ (cc_X3_isOutside l E A _ p) (va_cwS 1 hts gX3_copy_X3_isOutside rfl rfl rfl (by decide +kernel) ⟨(Nat.le_of_ble_eq_true rfl), (Nat.le_of_ble_eq_true rfl)⟩) hT hI hA hS rfl rfl hl.1 (Nat.le_of_ble_eq_true rfl) dX3_copy_1 ⟨(Nat.le_of_ble_eq_true rfl), (Nat.le_of_ble_eq_true rfl)⟩ (fun r w_2 H locs hp_1 hI hS => ?_)
  obtain ⟨rfl, ⟨ho_3, rfl⟩ | ⟨ho_3, rfl⟩⟩ := hp_1
  · refine W.eq (g2 := F0 m 4 ls [.int 1]) rfl ?_
    refine lv_if_ne (tgt := 14) hx hb dX3_copy_4 (by decide) (fun _ => ?_) (fun c => absurd c (by decide))
    refine lv_ldc (v := -2000000001) hx hb hown (hts (.constant RX3 23 (-2000000001)) (by decide +kernel)) dX3_copy_14 ?_
    exact re_i hx hb hr hlocks hT hA hS hI (PoC.of (by
            unfold sp_copy
            rw [if_pos (Or.inl ho_3)]
            try rw [ix_nI (by omega)]
            try rfl) hR rfl) (Nat.le_of_ble_eq_true rfl) (Nat.le_of_ble_eq_true rfl) dX3_copy_16
  · refine W.eq (g2 := F0 m 4 ls [.int 0]) rfl ?_
    refine lv_if_ne (tgt := 14) hx hb dX3_copy_4 (by decide) (fun c => absurd c (by decide)) (fun _ => ?_)
    refine lv_iload_n hx hb dX3_copy_7 rfl (lv_at hl 2 rfl) ?_
    refine ca_S (As := [.int o]) (rest := []) ⟨hx, hb, hml, hown, hts⟩ (cc_X3_isOutside l E A _ o) (va_cwS 1 hts gX3_copy_X3_isOutside rfl rfl rfl (by decide +kernel) ⟨(Nat.le_of_ble_eq_true rfl), (Nat.le_of_ble_eq_true rfl)⟩) hT hI hA hS rfl rfl hl.1 (Nat.le_of_ble_eq_true rfl) dX3_copy_8 ⟨(Nat.le_of_ble_eq_true rfl), (Nat.le_of_ble_eq_true rfl)⟩ (fun r w_5 H locs hp_4 hI hS => ?_)
    obtain ⟨rfl, ⟨ho_6, rfl⟩ | ⟨ho_6, rfl⟩⟩ := hp_4
    · refine W.eq (g2 := F0 m 11 ls [.int 1]) rfl ?_
      refine lv_if_eq (tgt := 17) hx hb dX3_copy_11 (by decide) (fun c => absurd c (by decide)) (fun _ => ?_)
      refine lv_ldc (v := -2000000001) hx hb hown (hts (.constant RX3 23 (-2000000001)) (by decide +kernel)) dX3_copy_14 ?_
      exact re_i hx hb hr hlocks hT hA hS hI (PoC.of (by
                unfold sp_copy
                rw [if_pos (Or.inr (ho_6))]
                try rw [ix_nI (by omega)]
                try rfl) hR rfl) (Nat.le_of_ble_eq_true rfl) (Nat.le_of_ble_eq_true rfl) dX3_copy_16
    · refine W.eq (g2 := F0 m 11 ls [.int 0]) rfl ?_
      refine lv_if_eq (tgt := 17) hx hb dX3_copy_11 (by decide) (fun _ => ?_) (fun c => absurd c (by decide))
      refine lv_aload_n hx hb dX3_copy_17 rfl (lv_at hl 0 rfl) ?_
      refine lv_iload_n hx hb dX3_copy_18 rfl (lv_at hl 2 rfl) ?_
      refine lv_bipush (v := 63) hx hb dX3_copy_19 (by decide) ?_
      obtain ⟨oj, hoj, rfl⟩ := isP_nat ho_6
      refine ca_V (As := [.int (nI oj), .int 63]) (rest := []) (r0 := (RX3, TX3, 2)) (ci := 2) ⟨hx, hb, hml, hown, hts⟩ (cc_X3_rowOf l E A _ (by omega) msk63 hW hR) (cwV 2 hts gX3_copy_X3_rowOf rfl rfl rfl (by decide +kernel) ⟨(Nat.le_of_ble_eq_true rfl), (Nat.le_of_ble_eq_true rfl)⟩) hT hI hA hS rfl hR.1 rfl rfl hl.1 (Nat.le_of_ble_eq_true rfl) dX3_copy_21 ⟨(Nat.le_of_ble_eq_true rfl), (Nat.le_of_ble_eq_true rfl)⟩ (fun r w_8 H locs hp_7 hI hS => ?_)
      rcases hp_7 with ⟨ez9, rfl, hR⟩ | ⟨ez9, hv9, hk9, rfl, hR⟩ | ⟨ez9, hv9, hk9, rfl, hR⟩
      · refine W.eq (g2 := F0 m 24 ls [.null]) rfl ?_
        refine lv_astore_nN (lv' := [(3, .null), (0, .ref (aH D)), (1, .int p), (2, .int (nI oj))]) hx hb dX3_copy_24 rfl hl (by decide) rfl (fun ls hl => ?_)
        refine lv_aload_nN hx hb dX3_copy_25 rfl (lv_at hl 0 rfl) ?_
        refine lv_ifnonnullN hx hb dX3_copy_26 ?_
        refine lv_iconst (v := 0) hx hb dX3_copy_29 (by decide) ?_
        refine lv_goto (tgt := 47) hx hb dX3_copy_30 (by decide) ?_
        exact re_i hx hb hr hlocks hT hA hS hI (PoC.of (by
                    unfold sp_copy
                    try simp only [pv_nI hoj]
                    rw [if_neg ((fun q => q.elim ho_3 ho_6)), if_pos (ez9)]
                    try rw [ix_nI (by omega)]
                    try rfl) hR rfl) (Nat.le_of_ble_eq_true rfl) (Nat.le_of_ble_eq_true rfl) dX3_copy_47
      · refine W.eq (g2 := F0 m 24 ls [.null]) rfl ?_
        refine lv_astore_nN (lv' := [(3, .null), (0, .ref (aH D)), (1, .int p), (2, .int (nI oj))]) hx hb dX3_copy_24 rfl hl (by decide) rfl (fun ls hl => ?_)
        refine lv_aload_nN hx hb dX3_copy_25 rfl (lv_at hl 0 rfl) ?_
        refine lv_ifnonnullN hx hb dX3_copy_26 ?_
        refine lv_iconst (v := 0) hx hb dX3_copy_29 (by decide) ?_
        refine lv_goto (tgt := 47) hx hb dX3_copy_30 (by decide) ?_
        exact re_i hx hb hr hlocks hT hA hS hI (PoC.of (by
                    unfold sp_copy
                    try simp only [pv_nI hoj]
                    rw [if_neg ((fun q => q.elim ho_3 ho_6)), if_neg (ez9), if_pos ((Classical.not_not.mp hk9))]
                    try rw [ix_nI (by omega)]
                    try rfl) hR rfl) (Nat.le_of_ble_eq_true rfl) (Nat.le_of_ble_eq_true rfl) dX3_copy_47
      · have hln9 := hW.ln hv9
        have hr9 : vR S (sPl S oj) := vO_row hv9 hk9
        refine W.eq (g2 := F0 m 24 ls [.ref (aR D (sPl S oj))]) rfl ?_
        refine lv_astore_n (lv' := [(3, .ref (aR D (sPl S oj))), (0, .ref (aH D)), (1, .int p), (2, .int (nI oj))]) hx hb dX3_copy_24 rfl hl (by decide) rfl (fun ls hl => ?_)
        refine lv_aload_n hx hb dX3_copy_25 rfl (lv_at hl 0 rfl) ?_
        refine lv_ifnonnull (tgt := 33) hx hb dX3_copy_26 (by decide) ?_
        obtain ⟨pj, hpj, rfl⟩ := isP_nat ho_3
        refine lv_aload_n hx hb dX3_copy_33 rfl (lv_at hl 1 rfl) ?_
        refine lv_iload_n hx hb dX3_copy_34 rfl (lv_at hl 2 rfl) ?_
        refine lv_aload_n hx hb dX3_copy_35 rfl (lv_at hl 0 rfl) ?_
        refine lv_iconst (v := 0) hx hb dX3_copy_36 (by decide) ?_
        refine lv_aload_n hx hb dX3_copy_37 rfl (lv_at hl 0 rfl) ?_
        refine wr_get (ci := 0) (C := RX1) (T := TX1) (N := 4) (v := .int (nI (lnv S (sPl S oj)))) hx hb hts in_X1 hown hT hI (hR.2.2.1 _ hv9).1 rfl 1 (by decide) (hts (.fieldLink RX3 43 "CopyRows$Row" "length" "I") (by decide +kernel)) rfl dX3_copy_38 ?_
        refine ca_V (As := [.int 0, .int (nI (lnv S (sPl S oj)))]) (rest := [.int (nI pj), .ref (aH D)]) (r0 := (RX1, TX1, 4)) (ci := 0) ⟨hx, hb, hml, hown, hts⟩ (cR_cut l E A _ (S := uCod S 0) 0 (lnv S (sPl S oj)) hW hR hb9.1 hr9 (by show 0 + (lnv S (sPl S oj)) ≤ lnv S (sPl S oj); omega)) (cwV 2 hts gX3_copy_X1_cut rfl rfl rfl (by decide +kernel) ⟨(Nat.le_of_ble_eq_true rfl), (Nat.le_of_ble_eq_true rfl)⟩) hT hI hA hS rfl (hR.2.2.1 _ hv9).1 rfl rfl hl.1 (Nat.le_of_ble_eq_true rfl) dX3_copy_41 ⟨(Nat.le_of_ble_eq_true rfl), (Nat.le_of_ble_eq_true rfl)⟩ (fun r w_11 H locs hp_10 hI hS => ?_)
        obtain ⟨q, qn, qp, rfl, hR, hvr, hlv, haR⟩ := hp_10
        have haR : aR (adR D (nI (sNr S)) q qn qp) (nI (sNr S)) = q := haR
        refine W.eq (g2 := F0 m 44 ls [.ref q, .int (nI pj), .ref (aH D)]) rfl ?_
        refine W.eq (g2 := F0 m 44 ls [.ref (aR (adR D (nI (sNr S)) q qn qp) (nI (sNr S))), .int (nI pj), .ref (aH D)]) (by rw [haR]) ?_
        refine ca_V (As := [.int (nI pj), .ref (aR (adR D (nI (sNr S)) q qn qp) (nI (sNr S)))]) (rest := []) (r0 := (RX3, TX3, 2)) (ci := 2) ⟨hx, hb, hml, hown, hts⟩ (cc_X3_put l E A _ (by omega) (Or.inl hvr) (nI_nm1 (by show sNr S < 2 ^ 31; omega)) hR) (cwV 2 hts gX3_copy_X3_put rfl rfl rfl (by decide +kernel) ⟨(Nat.le_of_ble_eq_true rfl), (Nat.le_of_ble_eq_true rfl)⟩) hT hI hA hS rfl hR.1 rfl rfl hl.1 (Nat.le_of_ble_eq_true rfl) dX3_copy_44 ⟨(Nat.le_of_ble_eq_true rfl), (Nat.le_of_ble_eq_true rfl)⟩ (fun r w_13 H locs hp_12 hI hS => ?_)
        obtain ⟨rfl, hR⟩ := hp_12
        rw [hlv]
        refine W.eq (g2 := F0 m 47 ls [.int (nI (lnv S (sPl S oj)))]) rfl ?_
        exact re_i hx hb hr hlocks hT hA hS hI (PoC.of (by
                    unfold sp_copy
                    try simp only [pv_nI hoj, pv_nI hpj]
                    rw [if_neg ((fun q => q.elim ho_3 ho_6)), if_neg (ez9), if_neg (hk9)]
                    try rw [ix_nI (by omega)]
                    try rfl) hR rfl) (Nat.le_of_ble_eq_true rfl) (Nat.le_of_ble_eq_true rfl) dX3_copy_47

set_option maxHeartbeats 4000000 in
set_option maxRecDepth 100000 in
theorem cc_X3_slice (l : Launch) (E : En) (A : Nat → Prop) (w : Wd) {S : Sx} {D : Ad} (p o i n : Int32) (hW : Wf S) (hR : Rp E S D w) (hb9 : sNr S < 512 ∧ sNt S < 512 ∧ sNl S < 512) : Ct l yX3_slice wsX3_slice ({ frames := 4, cells := 3, slots := 44, locals := 86 } : Room) E A w [.ref (aH D), .int p, .int o, .int i, .int n] (fun r w' => PoC E D (sp_slice S p o i n) r w') 3 44 := by
  refine Met.ofW (cc := cX3_slice) (maxL := 6) (ret := (some .int)) (by decide) rfl ?_
  intro pp0 ee0 s m args below meth cc0 s₁ B hml hv
  obtain ⟨rfl, hT, hI, hA⟩ := hv
  have hx := B.exec
  have hb := B.bytes
  have hr := B.returns
  have hts := atoms_spec (ws := wsX3_slice) B.pre
  have hown : s.vm.findClass RX3 = some m.cls := findClass_of_methodNamed B.named
  have hlocks := B.notSynchronized
  have hS : va_S A s.heap s.heap [] := va_S.rf
  have hl := lv_entry ([.ref (aH D), .int p, .int o, .int i, .int n]) (n := 6) (Nat.le_of_ble_eq_true rfl)
  rw [lg_entry_eq]
  generalize (lg_sl ([.ref (aH D), .int p, .int o, .int i, .int n]) ++ List.replicate (6 - (lg_sl ([.ref (aH D), .int p, .int o, .int i, .int n])).length) Slot.unset).toArray = ls at hl ⊢
  have hl : lv_has ls 6 [(0, .ref (aH D)), (1, .int p), (2, .int o), (3, .int i), (4, .int n)] := hl
  refine lv_iload_n hx hb dX3_slice_0 rfl (lv_at hl 1 rfl) ?_
  refine ca_S (As := [.int p]) (rest := []) ⟨hx, hb, hml, hown, hts⟩ (cc_X3_isOutside l E A _ p) (va_cwS 1 hts gX3_slice_X3_isOutside rfl rfl rfl (by decide +kernel) ⟨(Nat.le_of_ble_eq_true rfl), (Nat.le_of_ble_eq_true rfl)⟩) hT hI hA hS rfl rfl hl.1 (Nat.le_of_ble_eq_true rfl) dX3_slice_1 ⟨(Nat.le_of_ble_eq_true rfl), (Nat.le_of_ble_eq_true rfl)⟩ (fun r w_2 H locs hp_1 hI hS => ?_)
  obtain ⟨rfl, ⟨ho_3, rfl⟩ | ⟨ho_3, rfl⟩⟩ := hp_1
  · refine W.eq (g2 := F0 m 4 ls [.int 1]) rfl ?_
    refine lv_if_ne (tgt := 14) hx hb dX3_slice_4 (by decide) (fun _ => ?_) (fun c => absurd c (by decide))
    refine lv_ldc (v := -2000000001) hx hb hown (hts (.constant RX3 23 (-2000000001)) (by decide +kernel)) dX3_slice_14 ?_
    exact re_i hx hb hr hlocks hT hA hS hI (PoC.of (by
            unfold sp_slice
            rw [if_pos (Or.inl ho_3)]) hR rfl) (Nat.le_of_ble_eq_true rfl) (Nat.le_of_ble_eq_true rfl) dX3_slice_16
  · refine W.eq (g2 := F0 m 4 ls [.int 0]) rfl ?_
    refine lv_if_ne (tgt := 14) hx hb dX3_slice_4 (by decide) (fun c => absurd c (by decide)) (fun _ => ?_)
    refine lv_iload_n hx hb dX3_slice_7 rfl (lv_at hl 2 rfl) ?_
    refine ca_S (As := [.int o]) (rest := []) ⟨hx, hb, hml, hown, hts⟩ (cc_X3_isOutside l E A _ o) (va_cwS 1 hts gX3_slice_X3_isOutside rfl rfl rfl (by decide +kernel) ⟨(Nat.le_of_ble_eq_true rfl), (Nat.le_of_ble_eq_true rfl)⟩) hT hI hA hS rfl rfl hl.1 (Nat.le_of_ble_eq_true rfl) dX3_slice_8 ⟨(Nat.le_of_ble_eq_true rfl), (Nat.le_of_ble_eq_true rfl)⟩ (fun r w_5 H locs hp_4 hI hS => ?_)
    obtain ⟨rfl, ⟨ho_6, rfl⟩ | ⟨ho_6, rfl⟩⟩ := hp_4
    · refine W.eq (g2 := F0 m 11 ls [.int 1]) rfl ?_
      refine lv_if_eq (tgt := 17) hx hb dX3_slice_11 (by decide) (fun c => absurd c (by decide)) (fun _ => ?_)
      refine lv_ldc (v := -2000000001) hx hb hown (hts (.constant RX3 23 (-2000000001)) (by decide +kernel)) dX3_slice_14 ?_
      exact re_i hx hb hr hlocks hT hA hS hI (PoC.of (by
                unfold sp_slice
                rw [if_pos (Or.inr (ho_6))]) hR rfl) (Nat.le_of_ble_eq_true rfl) (Nat.le_of_ble_eq_true rfl) dX3_slice_16
    · refine W.eq (g2 := F0 m 11 ls [.int 0]) rfl ?_
      refine lv_if_eq (tgt := 17) hx hb dX3_slice_11 (by decide) (fun _ => ?_) (fun c => absurd c (by decide))
      refine lv_aload_n hx hb dX3_slice_17 rfl (lv_at hl 0 rfl) ?_
      refine lv_iload_n hx hb dX3_slice_18 rfl (lv_at hl 2 rfl) ?_
      refine lv_bipush (v := 63) hx hb dX3_slice_19 (by decide) ?_
      obtain ⟨oj, hoj, rfl⟩ := isP_nat ho_6
      refine ca_V (As := [.int (nI oj), .int 63]) (rest := []) (r0 := (RX3, TX3, 2)) (ci := 2) ⟨hx, hb, hml, hown, hts⟩ (cc_X3_rowOf l E A _ (by omega) msk63 hW hR) (cwV 2 hts gX3_slice_X3_rowOf rfl rfl rfl (by decide +kernel) ⟨(Nat.le_of_ble_eq_true rfl), (Nat.le_of_ble_eq_true rfl)⟩) hT hI hA hS rfl hR.1 rfl rfl hl.1 (Nat.le_of_ble_eq_true rfl) dX3_slice_21 ⟨(Nat.le_of_ble_eq_true rfl), (Nat.le_of_ble_eq_true rfl)⟩ (fun r w_8 H locs hp_7 hI hS => ?_)
      rcases hp_7 with ⟨ez9, rfl, hR⟩ | ⟨ez9, hv9, hk9, rfl, hR⟩ | ⟨ez9, hv9, hk9, rfl, hR⟩
      · refine W.eq (g2 := F0 m 24 ls [.null]) rfl ?_
        refine lv_astoreN (lv' := [(5, .null), (0, .ref (aH D)), (1, .int p), (2, .int (nI oj)), (3, .int i), (4, .int n)]) hx hb dX3_slice_24 hl (by decide) rfl (fun ls hl => ?_)
        refine lv_aloadN hx hb dX3_slice_26 (lv_at hl 0 rfl) ?_
        refine lv_ifnonnullN hx hb dX3_slice_28 ?_
        refine lv_iconst (v := 0) hx hb dX3_slice_31 (by decide) ?_
        exact re_i hx hb hr hlocks hT hA hS hI (PoC.of (by
                    unfold sp_slice
                    try simp only [pv_nI hoj]
                    rw [if_neg ((fun q => q.elim ho_3 ho_6)), if_pos (ez9)]) hR rfl) (Nat.le_of_ble_eq_true rfl) (Nat.le_of_ble_eq_true rfl) dX3_slice_32
      · refine W.eq (g2 := F0 m 24 ls [.null]) rfl ?_
        refine lv_astoreN (lv' := [(5, .null), (0, .ref (aH D)), (1, .int p), (2, .int (nI oj)), (3, .int i), (4, .int n)]) hx hb dX3_slice_24 hl (by decide) rfl (fun ls hl => ?_)
        refine lv_aloadN hx hb dX3_slice_26 (lv_at hl 0 rfl) ?_
        refine lv_ifnonnullN hx hb dX3_slice_28 ?_
        refine lv_iconst (v := 0) hx hb dX3_slice_31 (by decide) ?_
        exact re_i hx hb hr hlocks hT hA hS hI (PoC.of (by
                    unfold sp_slice
                    try simp only [pv_nI hoj]
                    rw [if_neg ((fun q => q.elim ho_3 ho_6)), if_neg (ez9), if_pos ((Classical.not_not.mp hk9))]) hR rfl) (Nat.le_of_ble_eq_true rfl) (Nat.le_of_ble_eq_true rfl) dX3_slice_32
      · have hln9 := hW.ln hv9
        have hr9 : vR S (sPl S oj) := vO_row hv9 hk9
        refine W.eq (g2 := F0 m 24 ls [.ref (aR D (sPl S oj))]) rfl ?_
        refine lv_astore (lv' := [(5, .ref (aR D (sPl S oj))), (0, .ref (aH D)), (1, .int p), (2, .int (nI oj)), (3, .int i), (4, .int n)]) hx hb dX3_slice_24 hl (by decide) rfl (fun ls hl => ?_)
        refine lv_aload hx hb dX3_slice_26 (lv_at hl 0 rfl) ?_
        refine lv_ifnonnull (tgt := 33) hx hb dX3_slice_28 (by decide) ?_
        refine lv_iload hx hb dX3_slice_33 (lv_at hl 5 rfl) ?_
        refine lv_if_ge (tgt := 44) hx hb dX3_slice_35 (by decide) (fun c_10 => ?_) (fun c_10 => ?_)
        · refine lv_aload hx hb dX3_slice_44 (lv_at hl 0 rfl) ?_
          refine lv_iload_n hx hb dX3_slice_46 rfl (lv_at hl 4 rfl) ?_
          refine lv_iload hx hb dX3_slice_47 (lv_at hl 5 rfl) ?_
          refine ca_V (As := [.int i, .int n]) (rest := []) (r0 := (RX1, TX1, 4)) (ci := 0) ⟨hx, hb, hml, hown, hts⟩ (cc_X1_hasRange l E A _ i n (hR.2.2.1 _ hv9).1) (cwV 2 hts gX3_slice_X1_hasRange rfl rfl rfl (by decide +kernel) ⟨(Nat.le_of_ble_eq_true rfl), (Nat.le_of_ble_eq_true rfl)⟩) hT hI hA hS rfl (hR.2.2.1 _ hv9).1 rfl rfl hl.1 (Nat.le_of_ble_eq_true rfl) dX3_slice_49 ⟨(Nat.le_of_ble_eq_true rfl), (Nat.le_of_ble_eq_true rfl)⟩ (fun r w_12 H locs hp_11 hI hS => ?_)
          obtain ⟨rfl, ⟨hg_13, rfl⟩ | ⟨hg_13, rfl⟩⟩ := hp_11
          · have hg_13 : rg (lnv S (sPl S oj)) i n := rng_yes (hW.ln hv9) hg_13
            refine W.eq (g2 := F0 m 52 ls [.int 1]) rfl ?_
            refine lv_if_ne (tgt := 61) hx hb dX3_slice_52 (by decide) (fun _ => ?_) (fun c => absurd c (by decide))
            obtain ⟨pj, hpj, rfl⟩ := isP_nat ho_3
            obtain ⟨ia, nb, hin1, rfl, rfl⟩ := rg_nat (hW.ln hv9) hg_13
            refine lv_aload_n hx hb dX3_slice_61 rfl (lv_at hl 1 rfl) ?_
            refine lv_iload_n hx hb dX3_slice_62 rfl (lv_at hl 2 rfl) ?_
            refine lv_aload hx hb dX3_slice_63 (lv_at hl 0 rfl) ?_
            refine lv_iload_n hx hb dX3_slice_65 rfl (lv_at hl 4 rfl) ?_
            refine lv_iload hx hb dX3_slice_66 (lv_at hl 5 rfl) ?_
            refine ca_V (As := [.int (nI ia), .int (nI nb)]) (rest := [.int (nI pj), .ref (aH D)]) (r0 := (RX1, TX1, 4)) (ci := 0) ⟨hx, hb, hml, hown, hts⟩ (cR_cut l E A _ (S := uCod S 0) ia nb hW hR hb9.1 hr9 (by show ia + nb ≤ lnv S (sPl S oj); omega)) (cwV 2 hts gX3_slice_X1_cut rfl rfl rfl (by decide +kernel) ⟨(Nat.le_of_ble_eq_true rfl), (Nat.le_of_ble_eq_true rfl)⟩) hT hI hA hS rfl (hR.2.2.1 _ hv9).1 rfl rfl hl.1 (Nat.le_of_ble_eq_true rfl) dX3_slice_68 ⟨(Nat.le_of_ble_eq_true rfl), (Nat.le_of_ble_eq_true rfl)⟩ (fun r w_15 H locs hp_14 hI hS => ?_)
            obtain ⟨q, qn, qp, rfl, hR, hvr, hlv, haR⟩ := hp_14
            have haR : aR (adR D (nI (sNr S)) q qn qp) (nI (sNr S)) = q := haR
            refine W.eq (g2 := F0 m 71 ls [.ref q, .int (nI pj), .ref (aH D)]) rfl ?_
            refine W.eq (g2 := F0 m 71 ls [.ref (aR (adR D (nI (sNr S)) q qn qp) (nI (sNr S))), .int (nI pj), .ref (aH D)]) (by rw [haR]) ?_
            refine ca_V (As := [.int (nI pj), .ref (aR (adR D (nI (sNr S)) q qn qp) (nI (sNr S)))]) (rest := []) (r0 := (RX3, TX3, 2)) (ci := 2) ⟨hx, hb, hml, hown, hts⟩ (cc_X3_put l E A _ (by omega) (Or.inl hvr) (nI_nm1 (by show sNr S < 2 ^ 31; omega)) hR) (cwV 2 hts gX3_slice_X3_put rfl rfl rfl (by decide +kernel) ⟨(Nat.le_of_ble_eq_true rfl), (Nat.le_of_ble_eq_true rfl)⟩) hT hI hA hS rfl hR.1 rfl rfl hl.1 (Nat.le_of_ble_eq_true rfl) dX3_slice_71 ⟨(Nat.le_of_ble_eq_true rfl), (Nat.le_of_ble_eq_true rfl)⟩ (fun r w_17 H locs hp_16 hI hS => ?_)
            obtain ⟨rfl, hR⟩ := hp_16
            rw [hlv]
            refine W.eq (g2 := F0 m 74 ls [.int (nI nb)]) rfl ?_
            exact re_i hx hb hr hlocks hT hA hS hI (PoC.of (by
                            unfold sp_slice
                            try simp only [pv_nI hoj, pv_nI hpj, ix_nI (show ia < 2 ^ 31 by omega), ix_nI (show nb < 2 ^ 31 by omega)]
                            rw [if_neg ((fun q => q.elim ho_3 ho_6)), if_neg (ez9), if_neg (hk9), if_neg ((not_not_intro c_10)), if_neg (not_not_intro hg_13)]
                            try rw [ix_nI (show pj < 2 ^ 31 by omega)]
                            try rfl) hR rfl) (Nat.le_of_ble_eq_true rfl) (Nat.le_of_ble_eq_true rfl) dX3_slice_74
          · have hg_13 : ¬ rg (lnv S (sPl S oj)) i n := rng_no (hW.ln hv9) hg_13
            refine W.eq (g2 := F0 m 52 ls [.int 0]) rfl ?_
            refine lv_if_ne (tgt := 61) hx hb dX3_slice_52 (by decide) (fun c => absurd c (by decide)) (fun _ => ?_)
            refine lv_aload_n hx hb dX3_slice_55 rfl (lv_at hl 1 rfl) ?_
            refine lv_iconst (v := 3) hx hb dX3_slice_56 (by decide) ?_
            refine ca_V (As := [.int 3]) (rest := []) (r0 := (RX3, TX3, 2)) (ci := 2) ⟨hx, hb, hml, hown, hts⟩ (cc_X3_fail l E A _ 3 hR) (cwV 1 hts gX3_slice_X3_fail rfl rfl rfl (by decide +kernel) ⟨(Nat.le_of_ble_eq_true rfl), (Nat.le_of_ble_eq_true rfl)⟩) hT hI hA hS rfl hR.1 rfl rfl hl.1 (Nat.le_of_ble_eq_true rfl) dX3_slice_57 ⟨(Nat.le_of_ble_eq_true rfl), (Nat.le_of_ble_eq_true rfl)⟩ (fun r w_19 H locs hp_18 hI hS => ?_)
            obtain ⟨rfl, hR⟩ := hp_18
            refine W.eq (g2 := F0 m 60 ls [.int 0]) rfl ?_
            exact re_i hx hb hr hlocks hT hA hS hI (PoC.of (by
                            unfold sp_slice
                            try simp only [pv_nI hoj]
                            rw [if_neg ((fun q => q.elim ho_3 ho_6)), if_neg (ez9), if_neg (hk9), if_neg ((not_not_intro c_10)), if_pos (hg_13)]) hR rfl) (Nat.le_of_ble_eq_true rfl) (Nat.le_of_ble_eq_true rfl) dX3_slice_60
        · refine lv_aload_n hx hb dX3_slice_38 rfl (lv_at hl 1 rfl) ?_
          refine lv_iconst (v := 4) hx hb dX3_slice_39 (by decide) ?_
          refine ca_V (As := [.int 4]) (rest := []) (r0 := (RX3, TX3, 2)) (ci := 2) ⟨hx, hb, hml, hown, hts⟩ (cc_X3_fail l E A _ 4 hR) (cwV 1 hts gX3_slice_X3_fail rfl rfl rfl (by decide +kernel) ⟨(Nat.le_of_ble_eq_true rfl), (Nat.le_of_ble_eq_true rfl)⟩) hT hI hA hS rfl hR.1 rfl rfl hl.1 (Nat.le_of_ble_eq_true rfl) dX3_slice_40 ⟨(Nat.le_of_ble_eq_true rfl), (Nat.le_of_ble_eq_true rfl)⟩ (fun r w_21 H locs hp_20 hI hS => ?_)
          obtain ⟨rfl, hR⟩ := hp_20
          refine W.eq (g2 := F0 m 43 ls [.int 0]) rfl ?_
          exact re_i hx hb hr hlocks hT hA hS hI (PoC.of (by
                        unfold sp_slice
                        try simp only [pv_nI hoj]
                        rw [if_neg ((fun q => q.elim ho_3 ho_6)), if_neg (ez9), if_neg (hk9), if_pos (c_10)]) hR rfl) (Nat.le_of_ble_eq_true rfl) (Nat.le_of_ble_eq_true rfl) dX3_slice_43

set_option maxHeartbeats 4000000 in
set_option maxRecDepth 100000 in
theorem cc_X3_join (l : Launch) (E : En) (A : Nat → Prop) (w : Wd) {S : Sx} {D : Ad} (p a b : Int32) (hW : Wf S) (hR : Rp E S D w) (hb9 : sNr S < 512 ∧ sNt S < 512 ∧ sNl S < 512) : Ct l yX3_join wsX3_join ({ frames := 3, cells := 3, slots := 44, locals := 66 } : Room) E A w [.ref (aH D), .int p, .int a, .int b] (fun r w' => PoC E D (sp_join S p a b) r w') 3 44 := by
  refine Met.ofW (cc := cX3_join) (maxL := 7) (ret := (some .int)) (by decide) rfl ?_
  intro pp0 ee0 s m args below meth cc0 s₁ B hml hv
  obtain ⟨rfl, hT, hI, hA⟩ := hv
  have hx := B.exec
  have hb := B.bytes
  have hr := B.returns
  have hts := atoms_spec (ws := wsX3_join) B.pre
  have hown : s.vm.findClass RX3 = some m.cls := findClass_of_methodNamed B.named
  have hlocks := B.notSynchronized
  have in_X1 : ∀ w ∈ wsX10, w ∈ wsX3_join := by decide +kernel
  have in_X3 : ∀ w ∈ wsX30, w ∈ wsX3_join := by decide +kernel
  have hS : va_S A s.heap s.heap [] := va_S.rf
  have hl := lv_entry ([.ref (aH D), .int p, .int a, .int b]) (n := 7) (Nat.le_of_ble_eq_true rfl)
  rw [lg_entry_eq]
  generalize (lg_sl ([.ref (aH D), .int p, .int a, .int b]) ++ List.replicate (7 - (lg_sl ([.ref (aH D), .int p, .int a, .int b])).length) Slot.unset).toArray = ls at hl ⊢
  have hl : lv_has ls 7 [(0, .ref (aH D)), (1, .int p), (2, .int a), (3, .int b)] := hl
  refine lv_iload_n hx hb dX3_join_0 rfl (lv_at hl 1 rfl) ?_
  refine ca_S (As := [.int p]) (rest := []) ⟨hx, hb, hml, hown, hts⟩ (cc_X3_isOutside l E A _ p) (va_cwS 1 hts gX3_join_X3_isOutside rfl rfl rfl (by decide +kernel) ⟨(Nat.le_of_ble_eq_true rfl), (Nat.le_of_ble_eq_true rfl)⟩) hT hI hA hS rfl rfl hl.1 (Nat.le_of_ble_eq_true rfl) dX3_join_1 ⟨(Nat.le_of_ble_eq_true rfl), (Nat.le_of_ble_eq_true rfl)⟩ (fun r w_2 H locs hp_1 hI hS => ?_)
  obtain ⟨rfl, ⟨ho_3, rfl⟩ | ⟨ho_3, rfl⟩⟩ := hp_1
  · refine W.eq (g2 := F0 m 4 ls [.int 1]) rfl ?_
    refine lv_if_ne (tgt := 21) hx hb dX3_join_4 (by decide) (fun _ => ?_) (fun c => absurd c (by decide))
    refine lv_ldc (v := -2000000001) hx hb hown (hts (.constant RX3 23 (-2000000001)) (by decide +kernel)) dX3_join_21 ?_
    exact re_i hx hb hr hlocks hT hA hS hI (PoC.of (by
            unfold sp_join
            rw [if_pos (Or.inl ho_3)]) hR rfl) (Nat.le_of_ble_eq_true rfl) (Nat.le_of_ble_eq_true rfl) dX3_join_23
  · refine W.eq (g2 := F0 m 4 ls [.int 0]) rfl ?_
    refine lv_if_ne (tgt := 21) hx hb dX3_join_4 (by decide) (fun c => absurd c (by decide)) (fun _ => ?_)
    refine lv_iload_n hx hb dX3_join_7 rfl (lv_at hl 2 rfl) ?_
    refine ca_S (As := [.int a]) (rest := []) ⟨hx, hb, hml, hown, hts⟩ (cc_X3_isOutside l E A _ a) (va_cwS 1 hts gX3_join_X3_isOutside rfl rfl rfl (by decide +kernel) ⟨(Nat.le_of_ble_eq_true rfl), (Nat.le_of_ble_eq_true rfl)⟩) hT hI hA hS rfl rfl hl.1 (Nat.le_of_ble_eq_true rfl) dX3_join_8 ⟨(Nat.le_of_ble_eq_true rfl), (Nat.le_of_ble_eq_true rfl)⟩ (fun r w_5 H locs hp_4 hI hS => ?_)
    obtain ⟨rfl, ⟨ho_6, rfl⟩ | ⟨ho_6, rfl⟩⟩ := hp_4
    · refine W.eq (g2 := F0 m 11 ls [.int 1]) rfl ?_
      refine lv_if_ne (tgt := 21) hx hb dX3_join_11 (by decide) (fun _ => ?_) (fun c => absurd c (by decide))
      refine lv_ldc (v := -2000000001) hx hb hown (hts (.constant RX3 23 (-2000000001)) (by decide +kernel)) dX3_join_21 ?_
      exact re_i hx hb hr hlocks hT hA hS hI (PoC.of (by
                unfold sp_join
                rw [if_pos (Or.inr (Or.inl ho_6))]) hR rfl) (Nat.le_of_ble_eq_true rfl) (Nat.le_of_ble_eq_true rfl) dX3_join_23
    · refine W.eq (g2 := F0 m 11 ls [.int 0]) rfl ?_
      refine lv_if_ne (tgt := 21) hx hb dX3_join_11 (by decide) (fun c => absurd c (by decide)) (fun _ => ?_)
      refine lv_iload_n hx hb dX3_join_14 rfl (lv_at hl 3 rfl) ?_
      refine ca_S (As := [.int b]) (rest := []) ⟨hx, hb, hml, hown, hts⟩ (cc_X3_isOutside l E A _ b) (va_cwS 1 hts gX3_join_X3_isOutside rfl rfl rfl (by decide +kernel) ⟨(Nat.le_of_ble_eq_true rfl), (Nat.le_of_ble_eq_true rfl)⟩) hT hI hA hS rfl rfl hl.1 (Nat.le_of_ble_eq_true rfl) dX3_join_15 ⟨(Nat.le_of_ble_eq_true rfl), (Nat.le_of_ble_eq_true rfl)⟩ (fun r w_8 H locs hp_7 hI hS => ?_)
      obtain ⟨rfl, ⟨ho_9, rfl⟩ | ⟨ho_9, rfl⟩⟩ := hp_7
      · refine W.eq (g2 := F0 m 18 ls [.int 1]) rfl ?_
        refine lv_if_eq (tgt := 24) hx hb dX3_join_18 (by decide) (fun c => absurd c (by decide)) (fun _ => ?_)
        refine lv_ldc (v := -2000000001) hx hb hown (hts (.constant RX3 23 (-2000000001)) (by decide +kernel)) dX3_join_21 ?_
        exact re_i hx hb hr hlocks hT hA hS hI (PoC.of (by
                    unfold sp_join
                    rw [if_pos (Or.inr (Or.inr (ho_9)))]) hR rfl) (Nat.le_of_ble_eq_true rfl) (Nat.le_of_ble_eq_true rfl) dX3_join_23
      · refine W.eq (g2 := F0 m 18 ls [.int 0]) rfl ?_
        refine lv_if_eq (tgt := 24) hx hb dX3_join_18 (by decide) (fun _ => ?_) (fun c => absurd c (by decide))
        obtain ⟨pj, hpj, rfl⟩ := isP_nat ho_3
        obtain ⟨aj, haj, rfl⟩ := isP_nat ho_6
        obtain ⟨bj, hbj, rfl⟩ := isP_nat ho_9
        refine lv_aload_n hx hb dX3_join_24 rfl (lv_at hl 0 rfl) ?_
        refine wr_get (ci := 2) (C := RX3) (T := TX3) (N := 2) (v := .ref (aP D)) hx hb hts in_X3 hown hT hI hR.1 rfl 0 (by decide) (hts (.fieldLink RX3 11 "CopyRows" "places" "[LCopyRows$Row;") (by decide +kernel)) rfl dX3_join_25 ?_
        refine lv_iload_n hx hb dX3_join_28 rfl (lv_at hl 2 rfl) ?_
        refine wr_aaldN (t := aj) hx hb hT hI hR.2.1 2 rfl (by omega) (by omega) dX3_join_29 ?_
        rcases hW.pl D aj with ⟨ez10, ep10⟩ | ⟨ez10, hv10, ep10⟩
        · refine W.eq (g2 := F0 m 30 ls [.null]) (by rw [ep10]; rfl) ?_
          refine lv_astoreN (lv' := [(4, .null), (0, .ref (aH D)), (1, .int (nI pj)), (2, .int (nI aj)), (3, .int (nI bj))]) hx hb dX3_join_30 hl (by decide) rfl (fun ls hl => ?_)
          refine lv_aload_n hx hb dX3_join_32 rfl (lv_at hl 1 rfl) ?_
          refine wr_get (ci := 2) (C := RX3) (T := TX3) (N := 2) (v := .ref (aP D)) hx hb hts in_X3 hown hT hI hR.1 rfl 0 (by decide) (hts (.fieldLink RX3 11 "CopyRows" "places" "[LCopyRows$Row;") (by decide +kernel)) rfl dX3_join_33 ?_
          refine lv_iload_n hx hb dX3_join_36 rfl (lv_at hl 4 rfl) ?_
          refine wr_aaldN (t := bj) hx hb hT hI hR.2.1 2 rfl (by omega) (by omega) dX3_join_37 ?_
          rcases hW.pl D bj with ⟨ez11, ep11⟩ | ⟨ez11, hv11, ep11⟩
          · refine W.eq (g2 := F0 m 38 ls [.null]) (by rw [ep11]; rfl) ?_
            refine lv_astoreN (lv' := [(5, .null), (4, .null), (0, .ref (aH D)), (1, .int (nI pj)), (2, .int (nI aj)), (3, .int (nI bj))]) hx hb dX3_join_38 hl (by decide) rfl (fun ls hl => ?_)
            refine lv_aloadN hx hb dX3_join_40 (lv_at hl 1 rfl) ?_
            refine lv_ifnullN (tgt := 50) hx hb dX3_join_42 (by decide) ?_
            refine lv_aload_n hx hb dX3_join_50 rfl (lv_at hl 2 rfl) ?_
            refine lv_iconst (v := 1) hx hb dX3_join_51 (by decide) ?_
            refine ca_V (As := [.int 1]) (rest := []) (r0 := (RX3, TX3, 2)) (ci := 2) ⟨hx, hb, hml, hown, hts⟩ (cc_X3_fail l E A _ 1 hR) (cwV 1 hts gX3_join_X3_fail rfl rfl rfl (by decide +kernel) ⟨(Nat.le_of_ble_eq_true rfl), (Nat.le_of_ble_eq_true rfl)⟩) hT hI hA hS rfl hR.1 rfl rfl hl.1 (Nat.le_of_ble_eq_true rfl) dX3_join_52 ⟨(Nat.le_of_ble_eq_true rfl), (Nat.le_of_ble_eq_true rfl)⟩ (fun r w_13 H locs hp_12 hI hS => ?_)
            obtain ⟨rfl, hR⟩ := hp_12
            refine W.eq (g2 := F0 m 55 ls [.int 0]) rfl ?_
            exact re_i hx hb hr hlocks hT hA hS hI (PoC.of (by
                            unfold sp_join
                            try simp only [pv_nI hpj, pv_nI haj, pv_nI hbj]
                            rw [if_neg ((fun q => q.elim ho_3 (fun q => q.elim ho_6 ho_9))), if_pos (Or.inl ez10)]) hR rfl) (Nat.le_of_ble_eq_true rfl) (Nat.le_of_ble_eq_true rfl) dX3_join_55
          · refine W.eq (g2 := F0 m 38 ls [.ref (aR D (sPl S bj))]) (by rw [ep11]; rfl) ?_
            refine lv_astore (lv' := [(5, .ref (aR D (sPl S bj))), (4, .null), (0, .ref (aH D)), (1, .int (nI pj)), (2, .int (nI aj)), (3, .int (nI bj))]) hx hb dX3_join_38 hl (by decide) rfl (fun ls hl => ?_)
            refine lv_aloadN hx hb dX3_join_40 (lv_at hl 1 rfl) ?_
            refine lv_ifnullN (tgt := 50) hx hb dX3_join_42 (by decide) ?_
            refine lv_aload_n hx hb dX3_join_50 rfl (lv_at hl 2 rfl) ?_
            refine lv_iconst (v := 1) hx hb dX3_join_51 (by decide) ?_
            refine ca_V (As := [.int 1]) (rest := []) (r0 := (RX3, TX3, 2)) (ci := 2) ⟨hx, hb, hml, hown, hts⟩ (cc_X3_fail l E A _ 1 hR) (cwV 1 hts gX3_join_X3_fail rfl rfl rfl (by decide +kernel) ⟨(Nat.le_of_ble_eq_true rfl), (Nat.le_of_ble_eq_true rfl)⟩) hT hI hA hS rfl hR.1 rfl rfl hl.1 (Nat.le_of_ble_eq_true rfl) dX3_join_52 ⟨(Nat.le_of_ble_eq_true rfl), (Nat.le_of_ble_eq_true rfl)⟩ (fun r w_15 H locs hp_14 hI hS => ?_)
            obtain ⟨rfl, hR⟩ := hp_14
            refine W.eq (g2 := F0 m 55 ls [.int 0]) rfl ?_
            exact re_i hx hb hr hlocks hT hA hS hI (PoC.of (by
                            unfold sp_join
                            try simp only [pv_nI hpj, pv_nI haj, pv_nI hbj]
                            rw [if_neg ((fun q => q.elim ho_3 (fun q => q.elim ho_6 ho_9))), if_pos (Or.inl ez10)]) hR rfl) (Nat.le_of_ble_eq_true rfl) (Nat.le_of_ble_eq_true rfl) dX3_join_55
        · refine W.eq (g2 := F0 m 30 ls [.ref (aR D (sPl S aj))]) (by rw [ep10]; rfl) ?_
          refine lv_astore (lv' := [(4, .ref (aR D (sPl S aj))), (0, .ref (aH D)), (1, .int (nI pj)), (2, .int (nI aj)), (3, .int (nI bj))]) hx hb dX3_join_30 hl (by decide) rfl (fun ls hl => ?_)
          refine lv_aload_n hx hb dX3_join_32 rfl (lv_at hl 1 rfl) ?_
          refine wr_get (ci := 2) (C := RX3) (T := TX3) (N := 2) (v := .ref (aP D)) hx hb hts in_X3 hown hT hI hR.1 rfl 0 (by decide) (hts (.fieldLink RX3 11 "CopyRows" "places" "[LCopyRows$Row;") (by decide +kernel)) rfl dX3_join_33 ?_
          refine lv_iload_n hx hb dX3_join_36 rfl (lv_at hl 4 rfl) ?_
          refine wr_aaldN (t := bj) hx hb hT hI hR.2.1 2 rfl (by omega) (by omega) dX3_join_37 ?_
          rcases hW.pl D bj with ⟨ez16, ep16⟩ | ⟨ez16, hv16, ep16⟩
          · refine W.eq (g2 := F0 m 38 ls [.null]) (by rw [ep16]; rfl) ?_
            refine lv_astoreN (lv' := [(5, .null), (4, .ref (aR D (sPl S aj))), (0, .ref (aH D)), (1, .int (nI pj)), (2, .int (nI aj)), (3, .int (nI bj))]) hx hb dX3_join_38 hl (by decide) rfl (fun ls hl => ?_)
            refine lv_aload hx hb dX3_join_40 (lv_at hl 1 rfl) ?_
            refine lv_ifnull hx hb dX3_join_42 ?_
            refine lv_aloadN hx hb dX3_join_45 (lv_at hl 0 rfl) ?_
            refine lv_ifnonnullN hx hb dX3_join_47 ?_
            refine lv_aload_n hx hb dX3_join_50 rfl (lv_at hl 2 rfl) ?_
            refine lv_iconst (v := 1) hx hb dX3_join_51 (by decide) ?_
            refine ca_V (As := [.int 1]) (rest := []) (r0 := (RX3, TX3, 2)) (ci := 2) ⟨hx, hb, hml, hown, hts⟩ (cc_X3_fail l E A _ 1 hR) (cwV 1 hts gX3_join_X3_fail rfl rfl rfl (by decide +kernel) ⟨(Nat.le_of_ble_eq_true rfl), (Nat.le_of_ble_eq_true rfl)⟩) hT hI hA hS rfl hR.1 rfl rfl hl.1 (Nat.le_of_ble_eq_true rfl) dX3_join_52 ⟨(Nat.le_of_ble_eq_true rfl), (Nat.le_of_ble_eq_true rfl)⟩ (fun r w_18 H locs hp_17 hI hS => ?_)
            obtain ⟨rfl, hR⟩ := hp_17
            refine W.eq (g2 := F0 m 55 ls [.int 0]) rfl ?_
            exact re_i hx hb hr hlocks hT hA hS hI (PoC.of (by
                            unfold sp_join
                            try simp only [pv_nI hpj, pv_nI haj, pv_nI hbj]
                            rw [if_neg ((fun q => q.elim ho_3 (fun q => q.elim ho_6 ho_9))), if_pos (Or.inr (ez16))]) hR rfl) (Nat.le_of_ble_eq_true rfl) (Nat.le_of_ble_eq_true rfl) dX3_join_55
          · refine W.eq (g2 := F0 m 38 ls [.ref (aR D (sPl S bj))]) (by rw [ep16]; rfl) ?_
            refine lv_astore (lv' := [(5, .ref (aR D (sPl S bj))), (4, .ref (aR D (sPl S aj))), (0, .ref (aH D)), (1, .int (nI pj)), (2, .int (nI aj)), (3, .int (nI bj))]) hx hb dX3_join_38 hl (by decide) rfl (fun ls hl => ?_)
            refine lv_aload hx hb dX3_join_40 (lv_at hl 1 rfl) ?_
            refine lv_ifnull hx hb dX3_join_42 ?_
            refine lv_aload hx hb dX3_join_45 (lv_at hl 0 rfl) ?_
            refine lv_ifnonnull (tgt := 56) hx hb dX3_join_47 (by decide) ?_
            refine lv_aload hx hb dX3_join_56 (lv_at hl 1 rfl) ?_
            refine wr_get (ci := 0) (C := RX1) (T := TX1) (N := 4) (v := .int (kdv S (sPl S aj))) hx hb hts in_X1 hown hT hI (hR.2.2.1 _ hv10).1 rfl 0 (by decide) (hts (.fieldLink RX3 53 "CopyRows$Row" "kind" "I") (by decide +kernel)) rfl dX3_join_58 ?_
            refine lv_bipush (v := 6) hx hb dX3_join_61 (by decide) ?_
            refine lv_icmp_eq (tgt := 76) hx hb dX3_join_63 (by decide) (fun c_19 => ?_) (fun c_19 => ?_)
            · refine lv_aload_n hx hb dX3_join_76 rfl (lv_at hl 2 rfl) ?_
              refine lv_iconst (v := 5) hx hb dX3_join_77 (by decide) ?_
              refine ca_V (As := [.int 5]) (rest := []) (r0 := (RX3, TX3, 2)) (ci := 2) ⟨hx, hb, hml, hown, hts⟩ (cc_X3_fail l E A _ 5 hR) (cwV 1 hts gX3_join_X3_fail rfl rfl rfl (by decide +kernel) ⟨(Nat.le_of_ble_eq_true rfl), (Nat.le_of_ble_eq_true rfl)⟩) hT hI hA hS rfl hR.1 rfl rfl hl.1 (Nat.le_of_ble_eq_true rfl) dX3_join_78 ⟨(Nat.le_of_ble_eq_true rfl), (Nat.le_of_ble_eq_true rfl)⟩ (fun r w_21 H locs hp_20 hI hS => ?_)
              obtain ⟨rfl, hR⟩ := hp_20
              refine W.eq (g2 := F0 m 81 ls [.int 0]) rfl ?_
              exact re_i hx hb hr hlocks hT hA hS hI (PoC.of (by
                                unfold sp_join
                                try simp only [pv_nI hpj, pv_nI haj, pv_nI hbj]
                                rw [if_neg ((fun q => q.elim ho_3 (fun q => q.elim ho_6 ho_9))), if_neg ((fun q => q.elim ez10 ez16)), if_pos (Or.inl c_19)]) hR rfl) (Nat.le_of_ble_eq_true rfl) (Nat.le_of_ble_eq_true rfl) dX3_join_81
            · refine lv_aload hx hb dX3_join_66 (lv_at hl 0 rfl) ?_
              refine wr_get (ci := 0) (C := RX1) (T := TX1) (N := 4) (v := .int (kdv S (sPl S bj))) hx hb hts in_X1 hown hT hI (hR.2.2.1 _ hv16).1 rfl 0 (by decide) (hts (.fieldLink RX3 53 "CopyRows$Row" "kind" "I") (by decide +kernel)) rfl dX3_join_68 ?_
              refine lv_bipush (v := 6) hx hb dX3_join_71 (by decide) ?_
              refine lv_icmp_ne (tgt := 82) hx hb dX3_join_73 (by decide) (fun c_22 => ?_) (fun c_22 => ?_)
              · have hla := hW.ln hv10
                have hlb := hW.ln hv16
                refine lv_aload hx hb dX3_join_82 (lv_at hl 1 rfl) ?_
                refine wr_get (ci := 0) (C := RX1) (T := TX1) (N := 4) (v := .int (nI (lnv S (sPl S aj)))) hx hb hts in_X1 hown hT hI (hR.2.2.1 _ hv10).1 rfl 1 (by decide) (hts (.fieldLink RX3 43 "CopyRows$Row" "length" "I") (by decide +kernel)) rfl dX3_join_84 ?_
                refine lv_aload hx hb dX3_join_87 (lv_at hl 0 rfl) ?_
                refine wr_get (ci := 0) (C := RX1) (T := TX1) (N := 4) (v := .int (nI (lnv S (sPl S bj)))) hx hb hts in_X1 hown hT hI (hR.2.2.1 _ hv16).1 rfl 1 (by decide) (hts (.fieldLink RX3 43 "CopyRows$Row" "length" "I") (by decide +kernel)) rfl dX3_join_89 ?_
                refine lv_iadd hx hb dX3_join_92 ?_
                refine W.eq (g2 := F0 m 93 ls [.int (nI ((lnv S (sPl S aj)) + (lnv S (sPl S bj))))]) (by rw [show (nI (lnv S (sPl S aj)) : Int32) + nI (lnv S (sPl S bj)) = nI ((lnv S (sPl S aj)) + (lnv S (sPl S bj))) from nI_add (lnv S (sPl S aj)) (lnv S (sPl S bj))]) ?_
                refine lv_bipush (v := 40) hx hb dX3_join_93 (by decide) ?_
                refine lv_icmp_le (tgt := 104) hx hb dX3_join_95 (by decide) (fun c_23 => ?_) (fun c_23 => ?_)
                · have c_23 : (lnv S (sPl S aj)) + (lnv S (sPl S bj)) ≤ 40 := (nI_leI (a := (lnv S (sPl S aj)) + (lnv S (sPl S bj))) (b := 40) (by omega) (by omega)).mp c_23
                  refine lv_aload hx hb dX3_join_104 (lv_at hl 1 rfl) ?_
                  refine lv_aload hx hb dX3_join_106 (lv_at hl 0 rfl) ?_
                  refine ca_V (As := [.ref (aR D (sPl S bj))]) (rest := []) (r0 := (RX1, TX1, 4)) (ci := 0) ⟨hx, hb, hml, hown, hts⟩ (cc_X1_mayTakeOf l E A _ (hR.2.2.1 _ hv10).1 (hR.2.2.1 _ hv16).1) (cwV 1 hts gX3_join_X1_mayTakeOf rfl rfl rfl (by decide +kernel) ⟨(Nat.le_of_ble_eq_true rfl), (Nat.le_of_ble_eq_true rfl)⟩) hT hI hA hS rfl (hR.2.2.1 _ hv10).1 rfl rfl hl.1 (Nat.le_of_ble_eq_true rfl) dX3_join_108 ⟨(Nat.le_of_ble_eq_true rfl), (Nat.le_of_ble_eq_true rfl)⟩ (fun r w_25 H locs hp_24 hI hS => ?_)
                  obtain ⟨rfl, ⟨hm_26, rfl⟩ | ⟨hm_26, rfl⟩⟩ := hp_24
                  · have hm_26 : mayT (kdv S (sPl S aj)) (kdv S (sPl S bj)) := hm_26
                    have hru : vR S (sPl S bj) := vO_row hv16 (fun e9 => hm_26.1 (Or.inr e9))
                    have hrv : vR S (sPl S aj) := vO_row hv10 (fun e9 => hm_26.1 (Or.inl e9))
                    have hlu := hW.ln (Or.inl hru)
                    have hlv := hW.ln (Or.inl hrv)
                    refine W.eq (g2 := F0 m 111 ls [.int 1]) rfl ?_
                    refine lv_if_eq (tgt := 135) hx hb dX3_join_111 (by decide) (fun c => absurd c (by decide)) (fun _ => ?_)
                    refine lv_aload hx hb dX3_join_114 (lv_at hl 1 rfl) ?_
                    refine lv_aload hx hb dX3_join_116 (lv_at hl 0 rfl) ?_
                    refine lv_iconst (v := 0) hx hb dX3_join_118 (by decide) ?_
                    refine lv_aload hx hb dX3_join_119 (lv_at hl 0 rfl) ?_
                    refine wr_get (ci := 0) (C := RX1) (T := TX1) (N := 4) (v := .int (nI (lnv S (sPl S bj)))) hx hb hts in_X1 hown hT hI (hR.2.2.1 _ hv16).1 rfl 1 (by decide) (hts (.fieldLink RX3 43 "CopyRows$Row" "length" "I") (by decide +kernel)) rfl dX3_join_121 ?_
                    refine ca_V (As := [.ref (aR D (sPl S bj)), .int 0, .int (nI (lnv S (sPl S bj)))]) (rest := []) (r0 := (RX1, TX1, 4)) (ci := 0) ⟨hx, hb, hml, hown, hts⟩ (cR_count l E A _ 0 (lnv S (sPl S bj)) hW hR hru hrv hm_26 (by omega)) (cwV 3 hts gX3_join_X1_countTaken rfl rfl rfl (by decide +kernel) ⟨(Nat.le_of_ble_eq_true rfl), (Nat.le_of_ble_eq_true rfl)⟩) hT hI hA hS rfl (hR.2.2.1 _ hv10).1 rfl rfl hl.1 (Nat.le_of_ble_eq_true rfl) dX3_join_124 ⟨(Nat.le_of_ble_eq_true rfl), (Nat.le_of_ble_eq_true rfl)⟩ (fun r w_28 H locs hp_27 hI hS => ?_)
                    obtain ⟨rfl, rfl⟩ := hp_27
                    have hsp := mvN_spec (S := S) (u := sPl S bj) (v := sPl S aj) (i := 0) (n := lnv S (sPl S bj))
                    generalize hmv : mvN S (sPl S bj) (sPl S aj) 0 (lnv S (sPl S bj)) = mv at hsp ⊢
                    refine W.eq (g2 := F0 m 127 ls [.int (nI mv)]) rfl ?_
                    refine lv_aload hx hb dX3_join_127 (lv_at hl 0 rfl) ?_
                    refine wr_get (ci := 0) (C := RX1) (T := TX1) (N := 4) (v := .int (nI (lnv S (sPl S bj)))) hx hb hts in_X1 hown hT hI (hR.2.2.1 _ hv16).1 rfl 1 (by decide) (hts (.fieldLink RX3 43 "CopyRows$Row" "length" "I") (by decide +kernel)) rfl dX3_join_129 ?_
                    refine lv_icmp_ge (tgt := 141) hx hb dX3_join_132 (by decide) (fun c_29 => ?_) (fun c_29 => ?_)
                    · have c_29 : lnv S (sPl S bj) ≤ mv := (nI_leI (a := lnv S (sPl S bj)) (b := mv) (by omega) (by omega)).mp c_29
                      by_cases hkn : isN (kdv S (sPl S aj))
                      · refine wr_new (ci := 0) (fs := [.int 0, .int 0, .null, .null]) (C := RX1) (T := TX1) (N := 4) hx hb hts in_X1 tyX1 tyX1_ok hown (hts (.classLink RX3 9 RX1) (by decide +kernel)) (hts (.instantiable RX1 4) (by decide +kernel)) (hts (.initialized RX1) (by decide +kernel)) hT hI hS hA rfl (fun j hj => by rcases (show j = 0 ∨ j = 1 ∨ j = 2 ∨ j = 3 by omega) with rfl | rfl | rfl | rfl <;> rfl) (Nat.le_of_ble_eq_true rfl) (Nat.le_of_ble_eq_true rfl) dX3_join_141 (fun q H hq hI hS => ?_)
                        refine W.widen (k := 1) (n := 4) (Nat.le_of_ble_eq_true rfl) (Nat.le_of_ble_eq_true rfl) ?_
                        have hR0 := hR
                        have hR := hR.sub (fun a9 x9 h9 => nw_in (y := .inr (0, [.int 0, .int 0, .null, .null])) h9 hq)
                        refine lv_dup hx hb dX3_join_144 rfl ?_
                        refine lv_aload hx hb dX3_join_145 (lv_at hl 1 rfl) ?_
                        refine wr_get (ci := 0) (C := RX1) (T := TX1) (N := 4) (v := .int (kdv S (sPl S aj))) hx hb hts in_X1 hown hT hI (hR.2.2.1 _ hv10).1 rfl 0 (by decide) (hts (.fieldLink RX3 53 "CopyRows$Row" "kind" "I") (by decide +kernel)) rfl dX3_join_147 ?_
                        refine lv_aload hx hb dX3_join_150 (lv_at hl 1 rfl) ?_
                        refine wr_get (ci := 0) (C := RX1) (T := TX1) (N := 4) (v := .int (nI (lnv S (sPl S aj)))) hx hb hts in_X1 hown hT hI (hR.2.2.1 _ hv10).1 rfl 1 (by decide) (hts (.fieldLink RX3 43 "CopyRows$Row" "length" "I") (by decide +kernel)) rfl dX3_join_152 ?_
                        refine lv_aload hx hb dX3_join_155 (lv_at hl 0 rfl) ?_
                        refine wr_get (ci := 0) (C := RX1) (T := TX1) (N := 4) (v := .int (nI (lnv S (sPl S bj)))) hx hb hts in_X1 hown hT hI (hR.2.2.1 _ hv16).1 rfl 1 (by decide) (hts (.fieldLink RX3 43 "CopyRows$Row" "length" "I") (by decide +kernel)) rfl dX3_join_157 ?_
                        refine lv_iadd hx hb dX3_join_160 ?_
                        refine W.eq (g2 := F0 m 161 ls [.int (nI ((lnv S (sPl S aj)) + (lnv S (sPl S bj)))), .int (kdv S (sPl S aj)), .ref q, .ref q]) (by rw [show (nI (lnv S (sPl S aj)) : Int32) + nI (lnv S (sPl S bj)) = nI ((lnv S (sPl S aj)) + (lnv S (sPl S bj))) from nI_add (lnv S (sPl S aj)) (lnv S (sPl S bj))]) ?_
                        refine ca_I (As := [.int (kdv S (sPl S aj)), .int (nI ((lnv S (sPl S aj)) + (lnv S (sPl S bj))))]) (rest := [.ref q]) ⟨hx, hb, hml, hown, hts⟩ (cc_X1_init_n l E A _ (kdv S (sPl S aj)) (lnv S (sPl S aj) + lnv S (sPl S bj)) (by omega) hkn (va_up_self _ _ _)) (cwI 2 hts gX3_join_X1_init rfl rfl rfl (hts (.initialized RX1) (by decide +kernel)) (hts (.methodLink RX3 28 yX1_init) (by decide +kernel)) (hts (.instanceMethod yX1_init) (by decide +kernel)) rfl (by decide +kernel) ⟨(Nat.le_of_ble_eq_true rfl), (Nat.le_of_ble_eq_true rfl)⟩) hT hI hA hS rfl rfl hl.1 (Nat.le_of_ble_eq_true rfl) dX3_join_161 ⟨(Nat.le_of_ble_eq_true rfl), (Nat.le_of_ble_eq_true rfl)⟩ (fun r w_31 H locs hp_30 hI hS => ?_)
                        obtain ⟨rfl, hp_30⟩ := hp_30
                        obtain ⟨qn, qp, hNq⟩ := NewRow.of hq hp_30
                        have hR := hR0.sub (w' := w_31) (fun a9 x9 h9 => hNq.keeps h9)
                        refine W.eq (g2 := F0 m 164 ls [.ref q]) rfl ?_
                        refine lv_astore (lv' := [(6, .ref q), (5, .ref (aR D (sPl S bj))), (4, .ref (aR D (sPl S aj))), (0, .ref (aH D)), (1, .int (nI pj)), (2, .int (nI aj)), (3, .int (nI bj))]) hx hb dX3_join_164 hl (by decide) rfl (fun ls hl => ?_)
                        refine lv_aload hx hb dX3_join_166 (lv_at hl 0 rfl) ?_
                        refine lv_aload hx hb dX3_join_168 (lv_at hl 2 rfl) ?_
                        refine lv_iconst (v := 0) hx hb dX3_join_170 (by decide) ?_
                        refine lv_iconst (v := 0) hx hb dX3_join_171 (by decide) ?_
                        refine lv_aload hx hb dX3_join_172 (lv_at hl 2 rfl) ?_
                        refine wr_get (ci := 0) (C := RX1) (T := TX1) (N := 4) (v := .int (nI (lnv S (sPl S aj)))) hx hb hts in_X1 hown hT hI (hR.2.2.1 _ hv10).1 rfl 1 (by decide) (hts (.fieldLink RX3 43 "CopyRows$Row" "length" "I") (by decide +kernel)) rfl dX3_join_174 ?_
                        refine ca_V (As := [.ref (aR D (sPl S aj)), .int 0, .int 0, .int (nI (lnv S (sPl S aj)))]) (rest := []) (r0 := (RX1, TX1, 4)) (ci := 0) ⟨hx, hb, hml, hown, hts⟩ (cc_X1_take_n l E A _ 0 0 (lnv S (sPl S aj)) (by omega) (by omega) (by omega) (by omega) hkn hNq.2.2.2.2.2.2.1 (hR.2.2.1 _ hv10).1 hNq.2.2.2.2.2.2.2.1 (hR.num hv10 hkn)) (cwV 4 hts gX3_join_X1_take rfl rfl rfl (by decide +kernel) ⟨(Nat.le_of_ble_eq_true rfl), (Nat.le_of_ble_eq_true rfl)⟩) hT hI hA hS rfl hNq.2.2.2.2.2.2.1 rfl rfl hl.1 (Nat.le_of_ble_eq_true rfl) dX3_join_177 ⟨(Nat.le_of_ble_eq_true rfl), (Nat.le_of_ble_eq_true rfl)⟩ (fun r w_33 H locs hp_32 hI hS => ?_)
                        obtain ⟨rfl, rfl⟩ := hp_32
                        have hNq := hNq.fillN (f2 := (va_cpy (itv S (sPl S aj)) (fun _ => 0) 0 0 (lnv S (sPl S aj))))
                        have hR := hR0.sub (fun a9 x9 h9 => hNq.keeps h9)
                        refine W.eq (g2 := F0 m 180 ls []) rfl ?_
                        refine lv_aload hx hb dX3_join_180 (lv_at hl 0 rfl) ?_
                        refine lv_aload hx hb dX3_join_182 (lv_at hl 1 rfl) ?_
                        refine lv_iconst (v := 0) hx hb dX3_join_184 (by decide) ?_
                        refine lv_aload hx hb dX3_join_185 (lv_at hl 2 rfl) ?_
                        refine wr_get (ci := 0) (C := RX1) (T := TX1) (N := 4) (v := .int (nI (lnv S (sPl S aj)))) hx hb hts in_X1 hown hT hI (hR.2.2.1 _ hv10).1 rfl 1 (by decide) (hts (.fieldLink RX3 43 "CopyRows$Row" "length" "I") (by decide +kernel)) rfl dX3_join_187 ?_
                        refine lv_aload hx hb dX3_join_190 (lv_at hl 1 rfl) ?_
                        refine wr_get (ci := 0) (C := RX1) (T := TX1) (N := 4) (v := .int (nI (lnv S (sPl S bj)))) hx hb hts in_X1 hown hT hI (hR.2.2.1 _ hv16).1 rfl 1 (by decide) (hts (.fieldLink RX3 43 "CopyRows$Row" "length" "I") (by decide +kernel)) rfl dX3_join_192 ?_
                        refine ca_V (As := [.ref (aR D (sPl S bj)), .int 0, .int (nI (lnv S (sPl S aj))), .int (nI (lnv S (sPl S bj)))]) (rest := []) (r0 := (RX1, TX1, 4)) (ci := 0) ⟨hx, hb, hml, hown, hts⟩ (cc_X1_take_n l E A _ 0 (lnv S (sPl S aj)) (lnv S (sPl S bj)) (by omega) (by omega) (by omega) (by omega) hkn hNq.2.2.2.2.2.2.1 (hR.2.2.1 _ hv16).1 hNq.2.2.2.2.2.2.2.1 (hR.num hv16 (may_isN hm_26 hkn))) (cwV 4 hts gX3_join_X1_take rfl rfl rfl (by decide +kernel) ⟨(Nat.le_of_ble_eq_true rfl), (Nat.le_of_ble_eq_true rfl)⟩) hT hI hA hS rfl hNq.2.2.2.2.2.2.1 rfl rfl hl.1 (Nat.le_of_ble_eq_true rfl) dX3_join_195 ⟨(Nat.le_of_ble_eq_true rfl), (Nat.le_of_ble_eq_true rfl)⟩ (fun r w_35 H locs hp_34 hI hS => ?_)
                        obtain ⟨rfl, rfl⟩ := hp_34
                        have hNq := hNq.fillN (f2 := (va_cpy (itv S (sPl S bj)) (va_cpy (itv S (sPl S aj)) (fun _ => 0) 0 0 (lnv S (sPl S aj))) 0 (lnv S (sPl S aj)) (lnv S (sPl S bj))))
                        have hR := hR0.sub (fun a9 x9 h9 => hNq.keeps h9)
                        refine W.eq (g2 := F0 m 198 ls []) rfl ?_
                        refine lv_aload_n hx hb dX3_join_198 rfl (lv_at hl 3 rfl) ?_
                        refine lv_iload_n hx hb dX3_join_199 rfl (lv_at hl 4 rfl) ?_
                        refine lv_aload hx hb dX3_join_200 (lv_at hl 0 rfl) ?_
                        obtain ⟨hR, hvr, hlv, haR⟩ := hR0.new (f := va_cpy (itv S (sPl S bj)) (va_cpy (itv S (sPl S aj)) (ini (kdv S (sPl S aj))) 0 0 (lnv S (sPl S aj))) 0 (lnv S (sPl S aj)) (lnv S (sPl S bj))) hW hb9.1 (NewRow.n hkn (by rw [ini_n hkn]; exact hNq)) (join_fi hW hru hrv (fun h9 k9 hk9 => (hsp.2 h9).1 k9 (by omega)) _)
                        refine W.eq (g2 := F0 m 202 ls [.ref (aR (adR D (nI (sNr S)) q qn qp) (nI (sNr S))), .int (nI pj), .ref (aH D)]) (by rw [haR]) ?_
                        refine ca_V (As := [.int (nI pj), .ref (aR (adR D (nI (sNr S)) q qn qp) (nI (sNr S)))]) (rest := []) (r0 := (RX3, TX3, 2)) (ci := 2) ⟨hx, hb, hml, hown, hts⟩ (cc_X3_put l E A _ (by omega) (Or.inl hvr) (nI_nm1 (by show sNr S < 2 ^ 31; omega)) hR) (cwV 2 hts gX3_join_X3_put rfl rfl rfl (by decide +kernel) ⟨(Nat.le_of_ble_eq_true rfl), (Nat.le_of_ble_eq_true rfl)⟩) hT hI hA hS rfl hR.1 rfl rfl hl.1 (Nat.le_of_ble_eq_true rfl) dX3_join_202 ⟨(Nat.le_of_ble_eq_true rfl), (Nat.le_of_ble_eq_true rfl)⟩ (fun r w_37 H locs hp_36 hI hS => ?_)
                        obtain ⟨rfl, hR⟩ := hp_36
                        rw [hlv]
                        refine W.eq (g2 := F0 m 205 ls [.int (nI (lnv S (sPl S aj) + lnv S (sPl S bj)))]) rfl ?_
                        exact re_i hx hb hr hlocks hT hA hS hI (PoC.of (by
                                                    unfold sp_join
                                                    try simp only [pv_nI hpj, pv_nI haj, pv_nI hbj]
                                                    rw [if_neg ((fun q => q.elim ho_3 (fun q => q.elim ho_6 ho_9))), if_neg ((fun q => q.elim ez10 ez16)), if_neg ((fun q => q.elim c_19 c_22)), if_neg (not_not_intro c_23), if_neg (fun q9 => q9.elim (not_not_intro hm_26) (fun q9 => by rw [hmv] at q9; omega))]
                                                    try rw [ix_nI (show pj < 2 ^ 31 by omega)]) hR rfl) (Nat.le_of_ble_eq_true rfl) (Nat.le_of_ble_eq_true rfl) dX3_join_205
                      · refine wr_new (ci := 0) (fs := [.int 0, .int 0, .null, .null]) (C := RX1) (T := TX1) (N := 4) hx hb hts in_X1 tyX1 tyX1_ok hown (hts (.classLink RX3 9 RX1) (by decide +kernel)) (hts (.instantiable RX1 4) (by decide +kernel)) (hts (.initialized RX1) (by decide +kernel)) hT hI hS hA rfl (fun j hj => by rcases (show j = 0 ∨ j = 1 ∨ j = 2 ∨ j = 3 by omega) with rfl | rfl | rfl | rfl <;> rfl) (Nat.le_of_ble_eq_true rfl) (Nat.le_of_ble_eq_true rfl) dX3_join_141 (fun q H hq hI hS => ?_)
                        refine W.widen (k := 1) (n := 4) (Nat.le_of_ble_eq_true rfl) (Nat.le_of_ble_eq_true rfl) ?_
                        have hR0 := hR
                        have hR := hR.sub (fun a9 x9 h9 => nw_in (y := .inr (0, [.int 0, .int 0, .null, .null])) h9 hq)
                        refine lv_dup hx hb dX3_join_144 rfl ?_
                        refine lv_aload hx hb dX3_join_145 (lv_at hl 1 rfl) ?_
                        refine wr_get (ci := 0) (C := RX1) (T := TX1) (N := 4) (v := .int (kdv S (sPl S aj))) hx hb hts in_X1 hown hT hI (hR.2.2.1 _ hv10).1 rfl 0 (by decide) (hts (.fieldLink RX3 53 "CopyRows$Row" "kind" "I") (by decide +kernel)) rfl dX3_join_147 ?_
                        refine lv_aload hx hb dX3_join_150 (lv_at hl 1 rfl) ?_
                        refine wr_get (ci := 0) (C := RX1) (T := TX1) (N := 4) (v := .int (nI (lnv S (sPl S aj)))) hx hb hts in_X1 hown hT hI (hR.2.2.1 _ hv10).1 rfl 1 (by decide) (hts (.fieldLink RX3 43 "CopyRows$Row" "length" "I") (by decide +kernel)) rfl dX3_join_152 ?_
                        refine lv_aload hx hb dX3_join_155 (lv_at hl 0 rfl) ?_
                        refine wr_get (ci := 0) (C := RX1) (T := TX1) (N := 4) (v := .int (nI (lnv S (sPl S bj)))) hx hb hts in_X1 hown hT hI (hR.2.2.1 _ hv16).1 rfl 1 (by decide) (hts (.fieldLink RX3 43 "CopyRows$Row" "length" "I") (by decide +kernel)) rfl dX3_join_157 ?_
                        refine lv_iadd hx hb dX3_join_160 ?_
                        refine W.eq (g2 := F0 m 161 ls [.int (nI ((lnv S (sPl S aj)) + (lnv S (sPl S bj)))), .int (kdv S (sPl S aj)), .ref q, .ref q]) (by rw [show (nI (lnv S (sPl S aj)) : Int32) + nI (lnv S (sPl S bj)) = nI ((lnv S (sPl S aj)) + (lnv S (sPl S bj))) from nI_add (lnv S (sPl S aj)) (lnv S (sPl S bj))]) ?_
                        refine ca_I (As := [.int (kdv S (sPl S aj)), .int (nI ((lnv S (sPl S aj)) + (lnv S (sPl S bj))))]) (rest := [.ref q]) ⟨hx, hb, hml, hown, hts⟩ (cc_X1_init_p l E A _ (kdv S (sPl S aj)) (lnv S (sPl S aj) + lnv S (sPl S bj)) (by omega) hkn (va_up_self _ _ _)) (cwI 2 hts gX3_join_X1_init rfl rfl rfl (hts (.initialized RX1) (by decide +kernel)) (hts (.methodLink RX3 28 yX1_init) (by decide +kernel)) (hts (.instanceMethod yX1_init) (by decide +kernel)) rfl (by decide +kernel) ⟨(Nat.le_of_ble_eq_true rfl), (Nat.le_of_ble_eq_true rfl)⟩) hT hI hA hS rfl rfl hl.1 (Nat.le_of_ble_eq_true rfl) dX3_join_161 ⟨(Nat.le_of_ble_eq_true rfl), (Nat.le_of_ble_eq_true rfl)⟩ (fun r w_39 H locs hp_38 hI hS => ?_)
                        obtain ⟨rfl, hp_38⟩ := hp_38
                        obtain ⟨qn, qp, hNq⟩ := NewRow.of hq hp_38
                        have hR := hR0.sub (w' := w_39) (fun a9 x9 h9 => hNq.keeps h9)
                        refine W.eq (g2 := F0 m 164 ls [.ref q]) rfl ?_
                        refine lv_astore (lv' := [(6, .ref q), (5, .ref (aR D (sPl S bj))), (4, .ref (aR D (sPl S aj))), (0, .ref (aH D)), (1, .int (nI pj)), (2, .int (nI aj)), (3, .int (nI bj))]) hx hb dX3_join_164 hl (by decide) rfl (fun ls hl => ?_)
                        refine lv_aload hx hb dX3_join_166 (lv_at hl 0 rfl) ?_
                        refine lv_aload hx hb dX3_join_168 (lv_at hl 2 rfl) ?_
                        refine lv_iconst (v := 0) hx hb dX3_join_170 (by decide) ?_
                        refine lv_iconst (v := 0) hx hb dX3_join_171 (by decide) ?_
                        refine lv_aload hx hb dX3_join_172 (lv_at hl 2 rfl) ?_
                        refine wr_get (ci := 0) (C := RX1) (T := TX1) (N := 4) (v := .int (nI (lnv S (sPl S aj)))) hx hb hts in_X1 hown hT hI (hR.2.2.1 _ hv10).1 rfl 1 (by decide) (hts (.fieldLink RX3 43 "CopyRows$Row" "length" "I") (by decide +kernel)) rfl dX3_join_174 ?_
                        refine ca_V (As := [.ref (aR D (sPl S aj)), .int 0, .int 0, .int (nI (lnv S (sPl S aj)))]) (rest := []) (r0 := (RX1, TX1, 4)) (ci := 0) ⟨hx, hb, hml, hown, hts⟩ (cc_X1_take_p l E A _ 0 0 (lnv S (sPl S aj)) (by omega) (by omega) (by omega) (by omega) hkn hNq.2.2.2.2.2.2.1 (hR.2.2.1 _ hv10).1 hNq.2.2.2.2.2.2.2.2.1 (hR.par hv10 hkn) (fun k9 _ => hR.ok hW hrv hkn _)) (cwV 4 hts gX3_join_X1_take rfl rfl rfl (by decide +kernel) ⟨(Nat.le_of_ble_eq_true rfl), (Nat.le_of_ble_eq_true rfl)⟩) hT hI hA hS rfl hNq.2.2.2.2.2.2.1 rfl rfl hl.1 (Nat.le_of_ble_eq_true rfl) dX3_join_177 ⟨(Nat.le_of_ble_eq_true rfl), (Nat.le_of_ble_eq_true rfl)⟩ (fun r w_41 H locs hp_40 hI hS => ?_)
                        obtain ⟨rfl, rfl⟩ := hp_40
                        have hNq := hNq.fillP (g2 := (va_cpy (fun k9 => pO D (kdv S (sPl S aj)) (itv S (sPl S aj) k9)) (fun _ => none) 0 0 (lnv S (sPl S aj))))
                        have hR := hR0.sub (fun a9 x9 h9 => hNq.keeps h9)
                        refine W.eq (g2 := F0 m 180 ls []) rfl ?_
                        refine lv_aload hx hb dX3_join_180 (lv_at hl 0 rfl) ?_
                        refine lv_aload hx hb dX3_join_182 (lv_at hl 1 rfl) ?_
                        refine lv_iconst (v := 0) hx hb dX3_join_184 (by decide) ?_
                        refine lv_aload hx hb dX3_join_185 (lv_at hl 2 rfl) ?_
                        refine wr_get (ci := 0) (C := RX1) (T := TX1) (N := 4) (v := .int (nI (lnv S (sPl S aj)))) hx hb hts in_X1 hown hT hI (hR.2.2.1 _ hv10).1 rfl 1 (by decide) (hts (.fieldLink RX3 43 "CopyRows$Row" "length" "I") (by decide +kernel)) rfl dX3_join_187 ?_
                        refine lv_aload hx hb dX3_join_190 (lv_at hl 1 rfl) ?_
                        refine wr_get (ci := 0) (C := RX1) (T := TX1) (N := 4) (v := .int (nI (lnv S (sPl S bj)))) hx hb hts in_X1 hown hT hI (hR.2.2.1 _ hv16).1 rfl 1 (by decide) (hts (.fieldLink RX3 43 "CopyRows$Row" "length" "I") (by decide +kernel)) rfl dX3_join_192 ?_
                        refine ca_V (As := [.ref (aR D (sPl S bj)), .int 0, .int (nI (lnv S (sPl S aj))), .int (nI (lnv S (sPl S bj)))]) (rest := []) (r0 := (RX1, TX1, 4)) (ci := 0) ⟨hx, hb, hml, hown, hts⟩ (cc_X1_take_p l E A _ 0 (lnv S (sPl S aj)) (lnv S (sPl S bj)) (by omega) (by omega) (by omega) (by omega) hkn hNq.2.2.2.2.2.2.1 (hR.2.2.1 _ hv16).1 hNq.2.2.2.2.2.2.2.2.1 (hR.par hv16 (may_notN hm_26 hkn)) (fun k9 _ => hR.ok hW hru (may_notN hm_26 hkn) _)) (cwV 4 hts gX3_join_X1_take rfl rfl rfl (by decide +kernel) ⟨(Nat.le_of_ble_eq_true rfl), (Nat.le_of_ble_eq_true rfl)⟩) hT hI hA hS rfl hNq.2.2.2.2.2.2.1 rfl rfl hl.1 (Nat.le_of_ble_eq_true rfl) dX3_join_195 ⟨(Nat.le_of_ble_eq_true rfl), (Nat.le_of_ble_eq_true rfl)⟩ (fun r w_43 H locs hp_42 hI hS => ?_)
                        obtain ⟨rfl, rfl⟩ := hp_42
                        have hNq := hNq.fillP (g2 := (va_cpy (fun k9 => pO D (kdv S (sPl S bj)) (itv S (sPl S bj) k9)) (va_cpy (fun k9 => pO D (kdv S (sPl S aj)) (itv S (sPl S aj) k9)) (fun _ => none) 0 0 (lnv S (sPl S aj))) 0 (lnv S (sPl S aj)) (lnv S (sPl S bj))))
                        have hR := hR0.sub (fun a9 x9 h9 => hNq.keeps h9)
                        refine W.eq (g2 := F0 m 198 ls []) rfl ?_
                        refine lv_aload_n hx hb dX3_join_198 rfl (lv_at hl 3 rfl) ?_
                        refine lv_iload_n hx hb dX3_join_199 rfl (lv_at hl 4 rfl) ?_
                        refine lv_aload hx hb dX3_join_200 (lv_at hl 0 rfl) ?_
                        obtain ⟨hR, hvr, hlv, haR⟩ := hR0.new (f := va_cpy (itv S (sPl S bj)) (va_cpy (itv S (sPl S aj)) (ini (kdv S (sPl S aj))) 0 0 (lnv S (sPl S aj))) 0 (lnv S (sPl S aj)) (lnv S (sPl S bj))) hW hb9.1 (NewRow.p hkn (by rw [cpy_ini hkn]; exact cpy_pO (fun k9 (hk9 : k9 < lnv S (sPl S bj)) => (hsp.2 hkn).1 k9 (by omega))) hNq) (join_fi hW hru hrv (fun h9 k9 hk9 => (hsp.2 h9).1 k9 (by omega)) _)
                        refine W.eq (g2 := F0 m 202 ls [.ref (aR (adR D (nI (sNr S)) q qn qp) (nI (sNr S))), .int (nI pj), .ref (aH D)]) (by rw [haR]) ?_
                        refine ca_V (As := [.int (nI pj), .ref (aR (adR D (nI (sNr S)) q qn qp) (nI (sNr S)))]) (rest := []) (r0 := (RX3, TX3, 2)) (ci := 2) ⟨hx, hb, hml, hown, hts⟩ (cc_X3_put l E A _ (by omega) (Or.inl hvr) (nI_nm1 (by show sNr S < 2 ^ 31; omega)) hR) (cwV 2 hts gX3_join_X3_put rfl rfl rfl (by decide +kernel) ⟨(Nat.le_of_ble_eq_true rfl), (Nat.le_of_ble_eq_true rfl)⟩) hT hI hA hS rfl hR.1 rfl rfl hl.1 (Nat.le_of_ble_eq_true rfl) dX3_join_202 ⟨(Nat.le_of_ble_eq_true rfl), (Nat.le_of_ble_eq_true rfl)⟩ (fun r w_45 H locs hp_44 hI hS => ?_)
                        obtain ⟨rfl, hR⟩ := hp_44
                        rw [hlv]
                        refine W.eq (g2 := F0 m 205 ls [.int (nI (lnv S (sPl S aj) + lnv S (sPl S bj)))]) rfl ?_
                        exact re_i hx hb hr hlocks hT hA hS hI (PoC.of (by
                                                    unfold sp_join
                                                    try simp only [pv_nI hpj, pv_nI haj, pv_nI hbj]
                                                    rw [if_neg ((fun q => q.elim ho_3 (fun q => q.elim ho_6 ho_9))), if_neg ((fun q => q.elim ez10 ez16)), if_neg ((fun q => q.elim c_19 c_22)), if_neg (not_not_intro c_23), if_neg (fun q9 => q9.elim (not_not_intro hm_26) (fun q9 => by rw [hmv] at q9; omega))]
                                                    try rw [ix_nI (show pj < 2 ^ 31 by omega)]) hR rfl) (Nat.le_of_ble_eq_true rfl) (Nat.le_of_ble_eq_true rfl) dX3_join_205
                    · have c_29 : ¬ lnv S (sPl S bj) ≤ mv := fun q => c_29 ((nI_leI (a := lnv S (sPl S bj)) (b := mv) (by omega) (by omega)).mpr q)
                      refine lv_aload_n hx hb dX3_join_135 rfl (lv_at hl 2 rfl) ?_
                      refine lv_iconst (v := 2) hx hb dX3_join_136 (by decide) ?_
                      refine ca_V (As := [.int 2]) (rest := []) (r0 := (RX3, TX3, 2)) (ci := 2) ⟨hx, hb, hml, hown, hts⟩ (cc_X3_fail l E A _ 2 hR) (cwV 1 hts gX3_join_X3_fail rfl rfl rfl (by decide +kernel) ⟨(Nat.le_of_ble_eq_true rfl), (Nat.le_of_ble_eq_true rfl)⟩) hT hI hA hS rfl hR.1 rfl rfl hl.1 (Nat.le_of_ble_eq_true rfl) dX3_join_137 ⟨(Nat.le_of_ble_eq_true rfl), (Nat.le_of_ble_eq_true rfl)⟩ (fun r w_47 H locs hp_46 hI hS => ?_)
                      obtain ⟨rfl, hR⟩ := hp_46
                      refine W.eq (g2 := F0 m 140 ls [.int 0]) rfl ?_
                      exact re_i hx hb hr hlocks hT hA hS hI (PoC.of (by
                                                unfold sp_join
                                                try simp only [pv_nI hpj, pv_nI haj, pv_nI hbj]
                                                rw [if_neg ((fun q => q.elim ho_3 (fun q => q.elim ho_6 ho_9))), if_neg ((fun q => q.elim ez10 ez16)), if_neg ((fun q => q.elim c_19 c_22)), if_neg (not_not_intro c_23), if_pos (Or.inr (by rw [hmv]; omega))]) hR rfl) (Nat.le_of_ble_eq_true rfl) (Nat.le_of_ble_eq_true rfl) dX3_join_140
                  · have hm_26 : ¬ mayT (kdv S (sPl S aj)) (kdv S (sPl S bj)) := hm_26
                    refine W.eq (g2 := F0 m 111 ls [.int 0]) rfl ?_
                    refine lv_if_eq (tgt := 135) hx hb dX3_join_111 (by decide) (fun _ => ?_) (fun c => absurd c (by decide))
                    refine lv_aload_n hx hb dX3_join_135 rfl (lv_at hl 2 rfl) ?_
                    refine lv_iconst (v := 2) hx hb dX3_join_136 (by decide) ?_
                    refine ca_V (As := [.int 2]) (rest := []) (r0 := (RX3, TX3, 2)) (ci := 2) ⟨hx, hb, hml, hown, hts⟩ (cc_X3_fail l E A _ 2 hR) (cwV 1 hts gX3_join_X3_fail rfl rfl rfl (by decide +kernel) ⟨(Nat.le_of_ble_eq_true rfl), (Nat.le_of_ble_eq_true rfl)⟩) hT hI hA hS rfl hR.1 rfl rfl hl.1 (Nat.le_of_ble_eq_true rfl) dX3_join_137 ⟨(Nat.le_of_ble_eq_true rfl), (Nat.le_of_ble_eq_true rfl)⟩ (fun r w_49 H locs hp_48 hI hS => ?_)
                    obtain ⟨rfl, hR⟩ := hp_48
                    refine W.eq (g2 := F0 m 140 ls [.int 0]) rfl ?_
                    exact re_i hx hb hr hlocks hT hA hS hI (PoC.of (by
                                            unfold sp_join
                                            try simp only [pv_nI hpj, pv_nI haj, pv_nI hbj]
                                            rw [if_neg ((fun q => q.elim ho_3 (fun q => q.elim ho_6 ho_9))), if_neg ((fun q => q.elim ez10 ez16)), if_neg ((fun q => q.elim c_19 c_22)), if_neg (not_not_intro c_23), if_pos (Or.inl hm_26)]) hR rfl) (Nat.le_of_ble_eq_true rfl) (Nat.le_of_ble_eq_true rfl) dX3_join_140
                · have c_23 : ¬ (lnv S (sPl S aj)) + (lnv S (sPl S bj)) ≤ 40 := fun q => c_23 ((nI_leI (a := (lnv S (sPl S aj)) + (lnv S (sPl S bj))) (b := 40) (by omega) (by omega)).mpr q)
                  refine lv_aload_n hx hb dX3_join_98 rfl (lv_at hl 2 rfl) ?_
                  refine lv_iconst (v := 3) hx hb dX3_join_99 (by decide) ?_
                  refine ca_V (As := [.int 3]) (rest := []) (r0 := (RX3, TX3, 2)) (ci := 2) ⟨hx, hb, hml, hown, hts⟩ (cc_X3_fail l E A _ 3 hR) (cwV 1 hts gX3_join_X3_fail rfl rfl rfl (by decide +kernel) ⟨(Nat.le_of_ble_eq_true rfl), (Nat.le_of_ble_eq_true rfl)⟩) hT hI hA hS rfl hR.1 rfl rfl hl.1 (Nat.le_of_ble_eq_true rfl) dX3_join_100 ⟨(Nat.le_of_ble_eq_true rfl), (Nat.le_of_ble_eq_true rfl)⟩ (fun r w_51 H locs hp_50 hI hS => ?_)
                  obtain ⟨rfl, hR⟩ := hp_50
                  refine W.eq (g2 := F0 m 103 ls [.int 0]) rfl ?_
                  exact re_i hx hb hr hlocks hT hA hS hI (PoC.of (by
                                        unfold sp_join
                                        try simp only [pv_nI hpj, pv_nI haj, pv_nI hbj]
                                        rw [if_neg ((fun q => q.elim ho_3 (fun q => q.elim ho_6 ho_9))), if_neg ((fun q => q.elim ez10 ez16)), if_neg ((fun q => q.elim c_19 c_22)), if_pos (c_23)]) hR rfl) (Nat.le_of_ble_eq_true rfl) (Nat.le_of_ble_eq_true rfl) dX3_join_103
              · refine lv_aload_n hx hb dX3_join_76 rfl (lv_at hl 2 rfl) ?_
                refine lv_iconst (v := 5) hx hb dX3_join_77 (by decide) ?_
                refine ca_V (As := [.int 5]) (rest := []) (r0 := (RX3, TX3, 2)) (ci := 2) ⟨hx, hb, hml, hown, hts⟩ (cc_X3_fail l E A _ 5 hR) (cwV 1 hts gX3_join_X3_fail rfl rfl rfl (by decide +kernel) ⟨(Nat.le_of_ble_eq_true rfl), (Nat.le_of_ble_eq_true rfl)⟩) hT hI hA hS rfl hR.1 rfl rfl hl.1 (Nat.le_of_ble_eq_true rfl) dX3_join_78 ⟨(Nat.le_of_ble_eq_true rfl), (Nat.le_of_ble_eq_true rfl)⟩ (fun r w_53 H locs hp_52 hI hS => ?_)
                obtain ⟨rfl, hR⟩ := hp_52
                refine W.eq (g2 := F0 m 81 ls [.int 0]) rfl ?_
                exact re_i hx hb hr hlocks hT hA hS hI (PoC.of (by
                                    unfold sp_join
                                    try simp only [pv_nI hpj, pv_nI haj, pv_nI hbj]
                                    rw [if_neg ((fun q => q.elim ho_3 (fun q => q.elim ho_6 ho_9))), if_neg ((fun q => q.elim ez10 ez16)), if_pos (Or.inr (c_22))]) hR rfl) (Nat.le_of_ble_eq_true rfl) (Nat.le_of_ble_eq_true rfl) dX3_join_81
