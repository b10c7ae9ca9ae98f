set_option maxHeartbeats 4000000 in
set_option maxRecDepth 100000 in
theorem cc_X3_thing (l : Launch) (E : En) (A : Nat → Prop) (w : Wd) {S : Sx} {D : Ad} (p k c x : Int32) (hW : Wf S) (hR : Rp E S D w) (hb9 : sNr S < 512 ∧ sNt S < 512 ∧ sNl S < 512) : Ct l yX3_thing wsX3_thing ({ frames := 3, cells := 1, slots := 2, locals := 62 } : Room) E A w [.ref (aH D), .int p, .int k, .int c, .int x] (fun r w' => PoC E D (sp_thing S p k c x) r w') 1 2 := by
  refine Met.ofW (cc := cX3_thing) (maxL := 7) (ret := (some .int)) (by decide) rfl ?_
  intro pp0 ee0 s m args below meth cc0 s₁ B hml hv
  obtain ⟨rfl, hT, hI, hA⟩ := hv
  have hx := B.exec
  have hb := B.bytes
  have hr := B.returns
  have hts := atoms_spec (ws := wsX3_thing) B.pre
  have hown : s.vm.findClass RX3 = some m.cls := findClass_of_methodNamed B.named
  have hlocks := B.notSynchronized
  have in_X1 : ∀ w ∈ wsX10, w ∈ wsX3_thing := by decide +kernel
  have in_X2 : ∀ w ∈ wsX20, w ∈ wsX3_thing := by decide +kernel
  have hS : va_S A s.heap s.heap [] := va_S.rf
  have hl := lv_entry ([.ref (aH D), .int p, .int k, .int c, .int x]) (n := 7) (Nat.le_of_ble_eq_true rfl)
  rw [lg_entry_eq]
  generalize (lg_sl ([.ref (aH D), .int p, .int k, .int c, .int x]) ++ List.replicate (7 - (lg_sl ([.ref (aH D), .int p, .int k, .int c, .int x])).length) Slot.unset).toArray = ls at hl ⊢
  have hl : lv_has ls 7 [(0, .ref (aH D)), (1, .int p), (2, .int k), (3, .int c), (4, .int x)] := hl
  refine lv_iload_n hx hb dX3_thing_0 rfl (lv_at hl 1 rfl) ?_
  refine ca_S (As := [.int p]) (rest := []) ⟨hx, hb, hml, hown, hts⟩ (cc_X3_isOutside l E A _ p) (va_cwS 1 hts gX3_thing_X3_isOutside rfl rfl rfl (by decide +kernel) ⟨(Nat.le_of_ble_eq_true rfl), (Nat.le_of_ble_eq_true rfl)⟩) hT hI hA hS rfl rfl hl.1 (Nat.le_of_ble_eq_true rfl) dX3_thing_1 ⟨(Nat.le_of_ble_eq_true rfl), (Nat.le_of_ble_eq_true rfl)⟩ (fun r w_2 H locs hp_1 hI hS => ?_)
  obtain ⟨rfl, ⟨ho_3, rfl⟩ | ⟨ho_3, rfl⟩⟩ := hp_1
  · refine W.eq (g2 := F0 m 4 ls [.int 1]) rfl ?_
    refine lv_if_ne (tgt := 17) hx hb dX3_thing_4 (by decide) (fun _ => ?_) (fun c => absurd c (by decide))
    refine lv_ldc (v := -2000000001) hx hb hown (hts (.constant RX3 23 (-2000000001)) (by decide +kernel)) dX3_thing_17 ?_
    exact re_i hx hb hr hlocks hT hA hS hI (PoC.of (by
            unfold sp_thing
            rw [if_pos (Or.inl ho_3)]
            try rfl) hR rfl) (Nat.le_of_ble_eq_true rfl) (Nat.le_of_ble_eq_true rfl) dX3_thing_19
  · refine W.eq (g2 := F0 m 4 ls [.int 0]) rfl ?_
    refine lv_if_ne (tgt := 17) hx hb dX3_thing_4 (by decide) (fun c => absurd c (by decide)) (fun _ => ?_)
    refine lv_iload_n hx hb dX3_thing_7 rfl (lv_at hl 3 rfl) ?_
    refine lv_iconst (v := -1) hx hb dX3_thing_8 (by decide) ?_
    refine lv_icmp_lt (tgt := 17) hx hb dX3_thing_9 (by decide) (fun c_4 => ?_) (fun c_4 => ?_)
    · refine lv_ldc (v := -2000000001) hx hb hown (hts (.constant RX3 23 (-2000000001)) (by decide +kernel)) dX3_thing_17 ?_
      exact re_i hx hb hr hlocks hT hA hS hI (PoC.of (by
                unfold sp_thing
                rw [if_pos (Or.inr (Or.inl c_4))]
                try rfl) hR rfl) (Nat.le_of_ble_eq_true rfl) (Nat.le_of_ble_eq_true rfl) dX3_thing_19
    · refine lv_iload_n hx hb dX3_thing_12 rfl (lv_at hl 3 rfl) ?_
      refine lv_iconst (v := 2) hx hb dX3_thing_13 (by decide) ?_
      refine lv_icmp_le (tgt := 20) hx hb dX3_thing_14 (by decide) (fun c_5 => ?_) (fun c_5 => ?_)
      · refine lv_aload_n hx hb dX3_thing_20 rfl (lv_at hl 0 rfl) ?_
        refine lv_iload_n hx hb dX3_thing_21 rfl (lv_at hl 1 rfl) ?_
        refine lv_bipush (v := 56) hx hb dX3_thing_22 (by decide) ?_
        obtain ⟨pj, hpj, rfl⟩ := isP_nat ho_3
        refine ca_V (As := [.int (nI pj), .int 56]) (rest := []) (r0 := (RX3, TX3, 2)) (ci := 2) ⟨hx, hb, hml, hown, hts⟩ (cc_X3_rowOf l E A _ (by omega) msk56 hW hR) (cwV 2 hts gX3_thing_X3_rowOf rfl rfl rfl (by decide +kernel) ⟨(Nat.le_of_ble_eq_true rfl), (Nat.le_of_ble_eq_true rfl)⟩) hT hI hA hS rfl hR.1 rfl rfl hl.1 (Nat.le_of_ble_eq_true rfl) dX3_thing_24 ⟨(Nat.le_of_ble_eq_true rfl), (Nat.le_of_ble_eq_true rfl)⟩ (fun r w_7 H locs hp_6 hI hS => ?_)
        rcases hp_6 with ⟨ez8, rfl, hR⟩ | ⟨ez8, hv8, hk8, rfl, hR⟩ | ⟨ez8, hv8, hk8, rfl, hR⟩
        · refine W.eq (g2 := F0 m 27 ls [.null]) rfl ?_
          refine lv_astoreN (lv' := [(5, .null), (0, .ref (aH D)), (1, .int (nI pj)), (2, .int k), (3, .int c), (4, .int x)]) hx hb dX3_thing_27 hl (by decide) rfl (fun ls hl => ?_)
          refine lv_aloadN hx hb dX3_thing_29 (lv_at hl 0 rfl) ?_
          refine lv_ifnonnullN hx hb dX3_thing_31 ?_
          refine lv_iconst (v := 0) hx hb dX3_thing_34 (by decide) ?_
          exact re_i hx hb hr hlocks hT hA hS hI (PoC.of (by
                        unfold sp_thing
                        try simp only [pv_nI hpj]
                        rw [if_neg ((fun q => q.elim ho_3 (fun q => q.elim c_4 (not_not_intro c_5)))), if_pos (ez8)]
                        try rfl) hR rfl) (Nat.le_of_ble_eq_true rfl) (Nat.le_of_ble_eq_true rfl) dX3_thing_35
        · refine W.eq (g2 := F0 m 27 ls [.null]) rfl ?_
          refine lv_astoreN (lv' := [(5, .null), (0, .ref (aH D)), (1, .int (nI pj)), (2, .int k), (3, .int c), (4, .int x)]) hx hb dX3_thing_27 hl (by decide) rfl (fun ls hl => ?_)
          refine lv_aloadN hx hb dX3_thing_29 (lv_at hl 0 rfl) ?_
          refine lv_ifnonnullN hx hb dX3_thing_31 ?_
          refine lv_iconst (v := 0) hx hb dX3_thing_34 (by decide) ?_
          exact re_i hx hb hr hlocks hT hA hS hI (PoC.of (by
                        unfold sp_thing
                        try simp only [pv_nI hpj]
                        rw [if_neg ((fun q => q.elim ho_3 (fun q => q.elim c_4 (not_not_intro c_5)))), if_neg (ez8), if_pos (hk8)]
                        try rfl) hR rfl) (Nat.le_of_ble_eq_true rfl) (Nat.le_of_ble_eq_true rfl) dX3_thing_35
        · have hln8 := hW.ln hv8
          have hkn8 : ¬ isN (kdv S (sPl S pj)) := by rcases hk8 with h | h | h <;> rw [h] <;> decide
          have hr8 : vR S (sPl S pj) := vO_row hv8 (by rcases hk8 with h | h | h <;> rw [h] <;> decide)
          refine W.eq (g2 := F0 m 27 ls [.ref (aR D (sPl S pj))]) rfl ?_
          refine lv_astore (lv' := [(5, .ref (aR D (sPl S pj))), (0, .ref (aH D)), (1, .int (nI pj)), (2, .int k), (3, .int c), (4, .int x)]) hx hb dX3_thing_27 hl (by decide) rfl (fun ls hl => ?_)
          refine lv_aload hx hb dX3_thing_29 (lv_at hl 0 rfl) ?_
          refine lv_ifnonnull (tgt := 36) hx hb dX3_thing_31 (by decide) ?_
          refine lv_aload hx hb dX3_thing_36 (lv_at hl 0 rfl) ?_
          refine lv_iload_n hx hb dX3_thing_38 rfl (lv_at hl 3 rfl) ?_
          refine ca_V (As := [.int k]) (rest := []) (r0 := (RX1, TX1, 4)) (ci := 0) ⟨hx, hb, hml, hown, hts⟩ (cc_X1_has l E A _ k (hR.2.2.1 _ hv8).1) (cwV 1 hts gX3_thing_X1_has rfl rfl rfl (by decide +kernel) ⟨(Nat.le_of_ble_eq_true rfl), (Nat.le_of_ble_eq_true rfl)⟩) hT hI hA hS rfl (hR.2.2.1 _ hv8).1 rfl rfl hl.1 (Nat.le_of_ble_eq_true rfl) dX3_thing_39 ⟨(Nat.le_of_ble_eq_true rfl), (Nat.le_of_ble_eq_true rfl)⟩ (fun r w_10 H locs hp_9 hI hS => ?_)
          obtain ⟨rfl, ⟨hi_11, rfl⟩ | ⟨hi_11, rfl⟩⟩ := hp_9
          · have hi_11 : ¬ oI (lnv S (sPl S pj)) k := has_yes hi_11
            refine W.eq (g2 := F0 m 42 ls [.int 1]) rfl ?_
            refine lv_if_ne (tgt := 51) hx hb dX3_thing_42 (by decide) (fun _ => ?_) (fun c => absurd c (by decide))
            obtain ⟨kj, hkj, rfl⟩ := oI_nat (hW.ln hv8) hi_11
            refine lv_iload_n hx hb dX3_thing_51 rfl (lv_at hl 4 rfl) ?_
            refine lv_iconst (v := -1) hx hb dX3_thing_52 (by decide) ?_
            refine lv_icmp_ne (tgt := 60) hx hb dX3_thing_53 (by decide) (fun c_12 => ?_) (fun c_12 => ?_)
            · refine wr_new (ci := 1) (fs := [.int 0, .int 0]) (C := RX2) (T := TX2) (N := 2) hx hb hts in_X2 tyX2 tyX2_ok hown (hts (.classLink RX3 56 RX2) (by decide +kernel)) (hts (.instantiable RX2 2) (by decide +kernel)) (hts (.initialized RX2) (by decide +kernel)) hT hI hS hA rfl (fun j hj => by rcases (show j = 0 ∨ j = 1 by omega) with rfl | rfl <;> rfl) (Nat.le_of_ble_eq_true rfl) (Nat.le_of_ble_eq_true rfl) dX3_thing_60 (fun q H hq hI hS => ?_)
              refine W.widen (k := 1) (n := 2) (Nat.le_of_ble_eq_true rfl) (Nat.le_of_ble_eq_true rfl) ?_
              have hR0 := hR
              have hR := hR.sub (fun a9 x9 h9 => nw_in (y := .inr (1, [.int 0, .int 0])) h9 hq)
              refine lv_dup hx hb dX3_thing_63 rfl ?_
              refine lv_iload_n hx hb dX3_thing_64 rfl (lv_at hl 4 rfl) ?_
              refine lv_iload hx hb dX3_thing_65 (lv_at hl 5 rfl) ?_
              refine ca_I (As := [.int c, .int x]) (rest := [.ref q]) ⟨hx, hb, hml, hown, hts⟩ (cc_X2_init l E A _ c x (va_up_self _ _ _)) (cwI 2 hts gX3_thing_X2_init rfl rfl rfl (hts (.initialized RX2) (by decide +kernel)) (hts (.methodLink RX3 58 yX2_init) (by decide +kernel)) (hts (.instanceMethod yX2_init) (by decide +kernel)) rfl (by decide +kernel) ⟨(Nat.le_of_ble_eq_true rfl), (Nat.le_of_ble_eq_true rfl)⟩) hT hI hA hS rfl rfl hl.1 (Nat.le_of_ble_eq_true rfl) dX3_thing_67 ⟨(Nat.le_of_ble_eq_true rfl), (Nat.le_of_ble_eq_true rfl)⟩ (fun r w_14 H locs hp_13 hI hS => ?_)
              obtain ⟨rfl, hth, hkeep⟩ := hp_13
              have hR := hR0.sub (w' := w_14) (fun a9 x9 h9 => by rw [hkeep a9 (nw_ne h9 hq), va_up_ne _ _ (nw_ne h9 hq)]; exact h9)
              refine W.eq (g2 := F0 m 70 ls [.ref q]) rfl ?_
              refine lv_astore (lv' := [(6, .ref q), (5, .ref (aR D (sPl S pj))), (0, .ref (aH D)), (1, .int (nI pj)), (2, .int (nI kj)), (3, .int c), (4, .int x)]) hx hb dX3_thing_70 hl (by decide) rfl (fun ls hl => ?_)
              refine lv_aload hx hb dX3_thing_72 (lv_at hl 1 rfl) ?_
              refine lv_aload hx hb dX3_thing_74 (lv_at hl 0 rfl) ?_
              refine ca_V (As := [.ref q]) (rest := []) (r0 := (RX1, TX1, 4)) (ci := 0) ⟨hx, hb, hml, hown, hts⟩ (cc_X1_takes_T l E A _ (hR.2.2.1 _ hv8).1 hth) (cwV 1 hts gX3_thing_X1_takes rfl rfl rfl (by decide +kernel) ⟨(Nat.le_of_ble_eq_true rfl), (Nat.le_of_ble_eq_true rfl)⟩) hT hI hA hS rfl (hR.2.2.1 _ hv8).1 rfl rfl hl.1 (Nat.le_of_ble_eq_true rfl) dX3_thing_76 ⟨(Nat.le_of_ble_eq_true rfl), (Nat.le_of_ble_eq_true rfl)⟩ (fun r w_16 H locs hp_15 hI hS => ?_)
              obtain ⟨rfl, ⟨hf_17, rfl⟩ | ⟨hf_17, rfl⟩⟩ := hp_15
              · have hf_17 : fT (kdv S (sPl S pj)) c := hf_17
                refine W.eq (g2 := F0 m 79 ls [.int 1]) rfl ?_
                refine lv_if_ne (tgt := 88) hx hb dX3_thing_79 (by decide) (fun _ => ?_) (fun c => absurd c (by decide))
                have hR := hR0.growT (k := c) (x := x) hW hq hth (fun a9 h9 => (hkeep a9 h9).trans (va_up_ne _ _ h9))
                refine lv_aload hx hb dX3_thing_88 (lv_at hl 1 rfl) ?_
                refine wr_get (ci := 0) (C := RX1) (T := TX1) (N := 4) (v := .ref (aQ D (sPl S pj))) hx hb hts in_X1 hown hT hI (hR.2.2.1 _ hv8).1 rfl 3 (by decide) (hts (.fieldLink RX3 63 "CopyRows$Row" "parts" "[LCopyRows$Part;") (by decide +kernel)) rfl dX3_thing_90 ?_
                refine lv_iload_n hx hb dX3_thing_93 rfl (lv_at hl 4 rfl) ?_
                refine lv_aload hx hb dX3_thing_94 (lv_at hl 0 rfl) ?_
                refine W.eq (g2 := F0 m 96 ls (va_rf (some (q)) :: .int (nI kj) :: .ref (aQ D (sPl S pj)) :: [])) rfl ?_
                refine wr_aastV (t := kj) (n := lnv S (sPl S pj)) (o := some (q)) (f := fun k9 => pO (adT D (nI (sNt S)) q) (kdv S (sPl S pj)) (itv S (sPl S pj) k9)) hx hb hT hI hS (hR.par hv8 hkn8) 1 rfl (fun v9 hv9 => by cases hv9; exact wr_any hT hI hth (r := (RX2, TX2, 2)) rfl hT.2.2.2.2.2.2.2.2.1) (by omega) (by omega) dX3_thing_96 (fun H locs hI hS => ?_)
                have hR := hR.parW (v := sPl S pj) hr8 hkn8 (upd (itv S (sPl S pj)) kj (nI (sNt S))) (pO_upd ((pO_th (nI_nm1 (by omega)) (kT_ne2 hk8)).trans (congrArg some adT_self)))
                refine lv_iconst (v := 1) hx hb dX3_thing_97 (by decide) ?_
                exact re_i hx hb hr hlocks hT hA hS hI (PoC.of (by
                                    unfold sp_thing
                                    try simp only [pv_nI hpj, ix_nI (show kj < 2 ^ 31 by omega)]
                                    rw [if_neg ((fun q => q.elim ho_3 (fun q => q.elim c_4 (not_not_intro c_5)))), if_neg (ez8), if_neg ((not_not_intro hk8)), if_neg (hi_11), if_neg (not_not_intro (Or.inr hf_17)), if_neg (c_12)]
                                    try rfl) hR rfl) (Nat.le_of_ble_eq_true rfl) (Nat.le_of_ble_eq_true rfl) dX3_thing_98
              · have hf_17 : ¬ fT (kdv S (sPl S pj)) c := hf_17
                refine W.eq (g2 := F0 m 79 ls [.int 0]) rfl ?_
                refine lv_if_ne (tgt := 88) hx hb dX3_thing_79 (by decide) (fun c => absurd c (by decide)) (fun _ => ?_)
                refine lv_aload_n hx hb dX3_thing_82 rfl (lv_at hl 2 rfl) ?_
                refine lv_iconst (v := 2) hx hb dX3_thing_83 (by decide) ?_
                refine ca_V (As := [.int 2]) (rest := []) (r0 := (RX3, TX3, 2)) (ci := 2) ⟨hx, hb, hml, hown, hts⟩ (cc_X3_fail l E A _ 2 hR) (cwV 1 hts gX3_thing_X3_fail rfl rfl rfl (by decide +kernel) ⟨(Nat.le_of_ble_eq_true rfl), (Nat.le_of_ble_eq_true rfl)⟩) hT hI hA hS rfl hR.1 rfl rfl hl.1 (Nat.le_of_ble_eq_true rfl) dX3_thing_84 ⟨(Nat.le_of_ble_eq_true rfl), (Nat.le_of_ble_eq_true rfl)⟩ (fun r w_19 H locs hp_18 hI hS => ?_)
                obtain ⟨rfl, hR⟩ := hp_18
                refine W.eq (g2 := F0 m 87 ls [.int 0]) rfl ?_
                exact re_i hx hb hr hlocks hT hA hS hI (PoC.of (by
                                    unfold sp_thing
                                    try simp only [pv_nI hpj, ix_nI (show kj < 2 ^ 31 by omega)]
                                    rw [if_neg ((fun q => q.elim ho_3 (fun q => q.elim c_4 (not_not_intro c_5)))), if_neg (ez8), if_neg ((not_not_intro hk8)), if_neg (hi_11), if_pos (fun q => q.elim c_12 hf_17)]
                                    try rfl) hR rfl) (Nat.le_of_ble_eq_true rfl) (Nat.le_of_ble_eq_true rfl) dX3_thing_87
            · refine lv_null hx hb dX3_thing_56 ?_
              refine lv_goto (tgt := 70) hx hb dX3_thing_57 (by decide) ?_
              refine lv_astoreN (lv' := [(6, .null), (5, .ref (aR D (sPl S pj))), (0, .ref (aH D)), (1, .int (nI pj)), (2, .int (nI kj)), (3, .int c), (4, .int x)]) hx hb dX3_thing_70 hl (by decide) rfl (fun ls hl => ?_)
              refine lv_aload hx hb dX3_thing_72 (lv_at hl 1 rfl) ?_
              refine lv_aloadN hx hb dX3_thing_74 (lv_at hl 0 rfl) ?_
              refine ca_V (As := [.null]) (rest := []) (r0 := (RX1, TX1, 4)) (ci := 0) ⟨hx, hb, hml, hown, hts⟩ (cc_X1_takes_N l E A _ (hR.2.2.1 _ hv8).1) (cwV 1 hts gX3_thing_X1_takes rfl rfl rfl (by decide +kernel) ⟨(Nat.le_of_ble_eq_true rfl), (Nat.le_of_ble_eq_true rfl)⟩) hT hI hA hS rfl (hR.2.2.1 _ hv8).1 rfl rfl hl.1 (Nat.le_of_ble_eq_true rfl) dX3_thing_76 ⟨(Nat.le_of_ble_eq_true rfl), (Nat.le_of_ble_eq_true rfl)⟩ (fun r w_21 H locs hp_20 hI hS => ?_)
              obtain ⟨rfl, rfl⟩ := hp_20
              refine W.eq (g2 := F0 m 79 ls [.int 1]) rfl ?_
              refine lv_if_ne (tgt := 88) hx hb dX3_thing_79 (by decide) (fun _ => ?_) (fun c => absurd c (by decide))
              refine lv_aload hx hb dX3_thing_88 (lv_at hl 1 rfl) ?_
              refine wr_get (ci := 0) (C := RX1) (T := TX1) (N := 4) (v := .ref (aQ D (sPl S pj))) hx hb hts in_X1 hown hT hI (hR.2.2.1 _ hv8).1 rfl 3 (by decide) (hts (.fieldLink RX3 63 "CopyRows$Row" "parts" "[LCopyRows$Part;") (by decide +kernel)) rfl dX3_thing_90 ?_
              refine lv_iload_n hx hb dX3_thing_93 rfl (lv_at hl 4 rfl) ?_
              refine lv_aloadN hx hb dX3_thing_94 (lv_at hl 0 rfl) ?_
              refine W.eq (g2 := F0 m 96 ls (va_rf none :: .int (nI kj) :: .ref (aQ D (sPl S pj)) :: [])) rfl ?_
              refine wr_aastV (t := kj) (n := lnv S (sPl S pj)) (o := none) (f := fun k9 => pO D (kdv S (sPl S pj)) (itv S (sPl S pj) k9)) hx hb hT hI hS (hR.par hv8 hkn8) 1 rfl (fun v9 hv9 => by cases hv9) (by omega) (by omega) dX3_thing_96 (fun H locs hI hS => ?_)
              have hR := hR.parW (v := sPl S pj) hr8 hkn8 (upd (itv S (sPl S pj)) kj (-1)) (pO_upd (pO_m1))
              refine lv_iconst (v := 1) hx hb dX3_thing_97 (by decide) ?_
              exact re_i hx hb hr hlocks hT hA hS hI (PoC.of (by
                                unfold sp_thing
                                try simp only [pv_nI hpj, ix_nI (show kj < 2 ^ 31 by omega)]
                                rw [if_neg ((fun q => q.elim ho_3 (fun q => q.elim c_4 (not_not_intro c_5)))), if_neg (ez8), if_neg ((not_not_intro hk8)), if_neg (hi_11), if_neg (not_not_intro (Or.inl c_12)), if_pos (c_12)]
                                try rfl) hR rfl) (Nat.le_of_ble_eq_true rfl) (Nat.le_of_ble_eq_true rfl) dX3_thing_98
          · have hi_11 : oI (lnv S (sPl S pj)) k := has_no hi_11
            refine W.eq (g2 := F0 m 42 ls [.int 0]) rfl ?_
            refine lv_if_ne (tgt := 51) hx hb dX3_thing_42 (by decide) (fun c => absurd c (by decide)) (fun _ => ?_)
            refine lv_aload_n hx hb dX3_thing_45 rfl (lv_at hl 1 rfl) ?_
            refine lv_iconst (v := 3) hx hb dX3_thing_46 (by decide) ?_
            refine ca_V (As := [.int 3]) (rest := []) (r0 := (RX3, TX3, 2)) (ci := 2) ⟨hx, hb, hml, hown, hts⟩ (cc_X3_fail l E A _ 3 hR) (cwV 1 hts gX3_thing_X3_fail rfl rfl rfl (by decide +kernel) ⟨(Nat.le_of_ble_eq_true rfl), (Nat.le_of_ble_eq_true rfl)⟩) hT hI hA hS rfl hR.1 rfl rfl hl.1 (Nat.le_of_ble_eq_true rfl) dX3_thing_47 ⟨(Nat.le_of_ble_eq_true rfl), (Nat.le_of_ble_eq_true rfl)⟩ (fun r w_23 H locs hp_22 hI hS => ?_)
            obtain ⟨rfl, hR⟩ := hp_22
            refine W.eq (g2 := F0 m 50 ls [.int 0]) rfl ?_
            exact re_i hx hb hr hlocks hT hA hS hI (PoC.of (by
                            unfold sp_thing
                            try simp only [pv_nI hpj]
                            rw [if_neg ((fun q => q.elim ho_3 (fun q => q.elim c_4 (not_not_intro c_5)))), if_neg (ez8), if_neg ((not_not_intro hk8)), if_pos (hi_11)]
                            try rfl) hR rfl) (Nat.le_of_ble_eq_true rfl) (Nat.le_of_ble_eq_true rfl) dX3_thing_50
      · refine lv_ldc (v := -2000000001) hx hb hown (hts (.constant RX3 23 (-2000000001)) (by decide +kernel)) dX3_thing_17 ?_
        exact re_i hx hb hr hlocks hT hA hS hI (PoC.of (by
                    unfold sp_thing
                    rw [if_pos (Or.inr (Or.inr (c_5)))]
                    try rfl) hR rfl) (Nat.le_of_ble_eq_true rfl) (Nat.le_of_ble_eq_true rfl) dX3_thing_19

set_option maxHeartbeats 4000000 in
set_option maxRecDepth 100000 in
theorem cc_X3_hang (l : Launch) (E : En) (A : Nat → Prop) (w : Wd) {S : Sx} {D : Ad} (p k o : Int32) (hW : Wf S) (hR : Rp E S D w) (hb9 : sNr S < 512 ∧ sNt S < 512 ∧ sNl S < 512) : Ct l yX3_hang wsX3_hang ({ frames := 1, cells := 0, slots := 0, locals := 23 } : Room) E A w [.ref (aH D), .int p, .int k, .int o] (fun r w' => PoC E D (sp_hang S p k o) r w') 0 0 := by
  refine Met.ofW (cc := cX3_hang) (maxL := 6) (ret := (some .int)) (by decide) rfl ?_
  intro pp0 ee0 s m args below meth cc0 s₁ B hml hv
  obtain ⟨rfl, hT, hI, hA⟩ := hv
  have hx := B.exec
  have hb := B.bytes
  have hr := B.returns
  have hts := atoms_spec (ws := wsX3_hang) B.pre
  have hown : s.vm.findClass RX3 = some m.cls := findClass_of_methodNamed B.named
  have hlocks := B.notSynchronized
  have in_X1 : ∀ w ∈ wsX10, w ∈ wsX3_hang := by decide +kernel
  have in_X3 : ∀ w ∈ wsX30, w ∈ wsX3_hang := by decide +kernel
  have hS : va_S A s.heap s.heap [] := va_S.rf
  have hl := lv_entry ([.ref (aH D), .int p, .int k, .int o]) (n := 6) (Nat.le_of_ble_eq_true rfl)
  rw [lg_entry_eq]
  generalize (lg_sl ([.ref (aH D), .int p, .int k, .int o]) ++ List.replicate (6 - (lg_sl ([.ref (aH D), .int p, .int k, .int o])).length) Slot.unset).toArray = ls at hl ⊢
  have hl : lv_has ls 6 [(0, .ref (aH D)), (1, .int p), (2, .int k), (3, .int o)] := hl
  refine lv_iload_n hx hb dX3_hang_0 rfl (lv_at hl 1 rfl) ?_
  refine ca_S (As := [.int p]) (rest := []) ⟨hx, hb, hml, hown, hts⟩ (cc_X3_isOutside l E A _ p) (va_cwS 1 hts gX3_hang_X3_isOutside rfl rfl rfl (by decide +kernel) ⟨(Nat.le_of_ble_eq_true rfl), (Nat.le_of_ble_eq_true rfl)⟩) hT hI hA hS rfl rfl hl.1 (Nat.le_of_ble_eq_true rfl) dX3_hang_1 ⟨(Nat.le_of_ble_eq_true rfl), (Nat.le_of_ble_eq_true rfl)⟩ (fun r w_2 H locs hp_1 hI hS => ?_)
  obtain ⟨rfl, ⟨ho_3, rfl⟩ | ⟨ho_3, rfl⟩⟩ := hp_1
  · refine W.eq (g2 := F0 m 4 ls [.int 1]) rfl ?_
    refine lv_if_ne (tgt := 14) hx hb dX3_hang_4 (by decide) (fun _ => ?_) (fun c => absurd c (by decide))
    refine lv_ldc (v := -2000000001) hx hb hown (hts (.constant RX3 23 (-2000000001)) (by decide +kernel)) dX3_hang_14 ?_
    exact re_i hx hb hr hlocks hT hA hS hI (PoC.of (by
            unfold sp_hang
            rw [if_pos (Or.inl ho_3)]
            try rfl) hR rfl) (Nat.le_of_ble_eq_true rfl) (Nat.le_of_ble_eq_true rfl) dX3_hang_16
  · refine W.eq (g2 := F0 m 4 ls [.int 0]) rfl ?_
    refine lv_if_ne (tgt := 14) hx hb dX3_hang_4 (by decide) (fun c => absurd c (by decide)) (fun _ => ?_)
    refine lv_iload_n hx hb dX3_hang_7 rfl (lv_at hl 3 rfl) ?_
    refine ca_S (As := [.int o]) (rest := []) ⟨hx, hb, hml, hown, hts⟩ (cc_X3_isOutside l E A _ o) (va_cwS 1 hts gX3_hang_X3_isOutside rfl rfl rfl (by decide +kernel) ⟨(Nat.le_of_ble_eq_true rfl), (Nat.le_of_ble_eq_true rfl)⟩) hT hI hA hS rfl rfl hl.1 (Nat.le_of_ble_eq_true rfl) dX3_hang_8 ⟨(Nat.le_of_ble_eq_true rfl), (Nat.le_of_ble_eq_true rfl)⟩ (fun r w_5 H locs hp_4 hI hS => ?_)
    obtain ⟨rfl, ⟨ho_6, rfl⟩ | ⟨ho_6, rfl⟩⟩ := hp_4
    · refine W.eq (g2 := F0 m 11 ls [.int 1]) rfl ?_
      refine lv_if_eq (tgt := 17) hx hb dX3_hang_11 (by decide) (fun c => absurd c (by decide)) (fun _ => ?_)
      refine lv_ldc (v := -2000000001) hx hb hown (hts (.constant RX3 23 (-2000000001)) (by decide +kernel)) dX3_hang_14 ?_
      exact re_i hx hb hr hlocks hT hA hS hI (PoC.of (by
                unfold sp_hang
                rw [if_pos (Or.inr (ho_6))]
                try rfl) hR rfl) (Nat.le_of_ble_eq_true rfl) (Nat.le_of_ble_eq_true rfl) dX3_hang_16
    · refine W.eq (g2 := F0 m 11 ls [.int 0]) rfl ?_
      refine lv_if_eq (tgt := 17) hx hb dX3_hang_11 (by decide) (fun _ => ?_) (fun c => absurd c (by decide))
      refine lv_aload_n hx hb dX3_hang_17 rfl (lv_at hl 0 rfl) ?_
      refine lv_iload_n hx hb dX3_hang_18 rfl (lv_at hl 1 rfl) ?_
      refine lv_iconst (v := 4) hx hb dX3_hang_19 (by decide) ?_
      obtain ⟨pj, hpj, rfl⟩ := isP_nat ho_3
      refine ca_V (As := [.int (nI pj), .int 4]) (rest := []) (r0 := (RX3, TX3, 2)) (ci := 2) ⟨hx, hb, hml, hown, hts⟩ (cc_X3_rowOf l E A _ (by omega) msk4 hW hR) (cwV 2 hts gX3_hang_X3_rowOf rfl rfl rfl (by decide +kernel) ⟨(Nat.le_of_ble_eq_true rfl), (Nat.le_of_ble_eq_true rfl)⟩) hT hI hA hS rfl hR.1 rfl rfl hl.1 (Nat.le_of_ble_eq_true rfl) dX3_hang_20 ⟨(Nat.le_of_ble_eq_true rfl), (Nat.le_of_ble_eq_true rfl)⟩ (fun r w_8 H locs hp_7 hI hS => ?_)
      rcases hp_7 with ⟨ez9, rfl, hR⟩ | ⟨ez9, hv9, hk9, rfl, hR⟩ | ⟨ez9, hv9, hk9, rfl, hR⟩
      · refine W.eq (g2 := F0 m 23 ls [.null]) rfl ?_
        refine lv_astoreN (lv' := [(4, .null), (0, .ref (aH D)), (1, .int (nI pj)), (2, .int k), (3, .int o)]) hx hb dX3_hang_23 hl (by decide) rfl (fun ls hl => ?_)
        refine lv_aloadN hx hb dX3_hang_25 (lv_at hl 0 rfl) ?_
        refine lv_ifnonnullN hx hb dX3_hang_27 ?_
        refine lv_iconst (v := 0) hx hb dX3_hang_30 (by decide) ?_
        exact re_i hx hb hr hlocks hT hA hS hI (PoC.of (by
                    unfold sp_hang
                    try simp only [pv_nI hpj]
                    rw [if_neg ((fun q => q.elim ho_3 ho_6)), if_pos (ez9)]
                    try rfl) hR rfl) (Nat.le_of_ble_eq_true rfl) (Nat.le_of_ble_eq_true rfl) dX3_hang_31
      · refine W.eq (g2 := F0 m 23 ls [.null]) rfl ?_
        refine lv_astoreN (lv' := [(4, .null), (0, .ref (aH D)), (1, .int (nI pj)), (2, .int k), (3, .int o)]) hx hb dX3_hang_23 hl (by decide) rfl (fun ls hl => ?_)
        refine lv_aloadN hx hb dX3_hang_25 (lv_at hl 0 rfl) ?_
        refine lv_ifnonnullN hx hb dX3_hang_27 ?_
        refine lv_iconst (v := 0) hx hb dX3_hang_30 (by decide) ?_
        exact re_i hx hb hr hlocks hT hA hS hI (PoC.of (by
                    unfold sp_hang
                    try simp only [pv_nI hpj]
                    rw [if_neg ((fun q => q.elim ho_3 ho_6)), if_neg (ez9), if_pos (hk9)]
                    try rfl) hR rfl) (Nat.le_of_ble_eq_true rfl) (Nat.le_of_ble_eq_true rfl) dX3_hang_31
      · have hln9 := hW.ln hv9
        have hk9 : kdv S (sPl S pj) = 2 := hk9
        have hkn9 : ¬ isN (kdv S (sPl S pj)) := by rw [hk9]; decide
        have hr9 : vR S (sPl S pj) := vO_row hv9 (by rw [hk9]; decide)
        refine W.eq (g2 := F0 m 23 ls [.ref (aR D (sPl S pj))]) rfl ?_
        refine lv_astore (lv' := [(4, .ref (aR D (sPl S pj))), (0, .ref (aH D)), (1, .int (nI pj)), (2, .int k), (3, .int o)]) hx hb dX3_hang_23 hl (by decide) rfl (fun ls hl => ?_)
        refine lv_aload hx hb dX3_hang_25 (lv_at hl 0 rfl) ?_
        refine lv_ifnonnull (tgt := 32) hx hb dX3_hang_27 (by decide) ?_
        refine lv_aload_n hx hb dX3_hang_32 rfl (lv_at hl 1 rfl) ?_
        refine wr_get (ci := 2) (C := RX3) (T := TX3) (N := 2) (v := .ref (aP D)) hx hb hts in_X3 hown hT hI hR.1 rfl 0 (by decide) (hts (.fieldLink RX3 11 "CopyRows" "places" "[LCopyRows$Row;") (by decide +kernel)) rfl dX3_hang_33 ?_
        refine lv_iload_n hx hb dX3_hang_36 rfl (lv_at hl 4 rfl) ?_
        obtain ⟨oj, hoj, rfl⟩ := isP_nat ho_6
        refine wr_aaldN (t := oj) hx hb hT hI hR.2.1 2 rfl (by omega) (by omega) dX3_hang_37 ?_
        rcases hW.pl D oj with ⟨ez10, ep10⟩ | ⟨ez10, hv10, ep10⟩
        · refine W.eq (g2 := F0 m 38 ls [.null]) (by rw [ep10]; rfl) ?_
          refine lv_astoreN (lv' := [(5, .null), (4, .ref (aR D (sPl S pj))), (0, .ref (aH D)), (1, .int (nI pj)), (2, .int k), (3, .int (nI oj))]) hx hb dX3_hang_38 hl (by decide) rfl (fun ls hl => ?_)
          refine lv_aloadN hx hb dX3_hang_40 (lv_at hl 0 rfl) ?_
          refine lv_ifnullN (tgt := 60) hx hb dX3_hang_42 (by decide) ?_
          refine lv_aload hx hb dX3_hang_60 (lv_at hl 1 rfl) ?_
          refine lv_iload_n hx hb dX3_hang_62 rfl (lv_at hl 4 rfl) ?_
          refine ca_V (As := [.int k]) (rest := []) (r0 := (RX1, TX1, 4)) (ci := 0) ⟨hx, hb, hml, hown, hts⟩ (cc_X1_has l E A _ k (hR.2.2.1 _ hv9).1) (cwV 1 hts gX3_hang_X1_has rfl rfl rfl (by decide +kernel) ⟨(Nat.le_of_ble_eq_true rfl), (Nat.le_of_ble_eq_true rfl)⟩) hT hI hA hS rfl (hR.2.2.1 _ hv9).1 rfl rfl hl.1 (Nat.le_of_ble_eq_true rfl) dX3_hang_63 ⟨(Nat.le_of_ble_eq_true rfl), (Nat.le_of_ble_eq_true rfl)⟩ (fun r w_12 H locs hp_11 hI hS => ?_)
          obtain ⟨rfl, ⟨hi_13, rfl⟩ | ⟨hi_13, rfl⟩⟩ := hp_11
          · have hi_13 : ¬ oI (lnv S (sPl S pj)) k := has_yes hi_13
            refine W.eq (g2 := F0 m 66 ls [.int 1]) rfl ?_
            refine lv_if_ne (tgt := 75) hx hb dX3_hang_66 (by decide) (fun _ => ?_) (fun c => absurd c (by decide))
            obtain ⟨kj, hkj, rfl⟩ := oI_nat (hW.ln hv9) hi_13
            refine lv_aload hx hb dX3_hang_75 (lv_at hl 1 rfl) ?_
            refine wr_get (ci := 0) (C := RX1) (T := TX1) (N := 4) (v := .ref (aQ D (sPl S pj))) hx hb hts in_X1 hown hT hI (hR.2.2.1 _ hv9).1 rfl 3 (by decide) (hts (.fieldLink RX3 63 "CopyRows$Row" "parts" "[LCopyRows$Part;") (by decide +kernel)) rfl dX3_hang_77 ?_
            refine lv_iload_n hx hb dX3_hang_80 rfl (lv_at hl 4 rfl) ?_
            refine lv_aloadN hx hb dX3_hang_81 (lv_at hl 0 rfl) ?_
            refine W.eq (g2 := F0 m 83 ls (va_rf none :: .int (nI kj) :: .ref (aQ D (sPl S pj)) :: [])) rfl ?_
            refine wr_aastV (t := kj) (n := lnv S (sPl S pj)) (o := none) (f := fun k9 => pO D (kdv S (sPl S pj)) (itv S (sPl S pj) k9)) hx hb hT hI hS (hR.par hv9 hkn9) 1 rfl (fun v9 hv9 => by cases hv9) (by omega) (by omega) dX3_hang_83 (fun H locs hI hS => ?_)
            have hR := hR.parW (v := sPl S pj) hr9 hkn9 (upd (itv S (sPl S pj)) kj (sPl S oj)) (pO_upd ((congrArg (pO D _) ez10).trans pO_m1))
            refine lv_iconst (v := 1) hx hb dX3_hang_84 (by decide) ?_
            exact re_i hx hb hr hlocks hT hA hS hI (PoC.of (by
                            unfold sp_hang
                            try simp only [pv_nI hpj, pv_nI hoj, ix_nI (show kj < 2 ^ 31 by omega)]
                            rw [if_neg ((fun q => q.elim ho_3 ho_6)), if_neg (ez9), if_neg ((not_not_intro hk9)), if_neg (not_not_intro (Or.inl ez10)), if_neg (hi_13)]
                            try rfl) hR rfl) (Nat.le_of_ble_eq_true rfl) (Nat.le_of_ble_eq_true rfl) dX3_hang_85
          · have hi_13 : oI (lnv S (sPl S pj)) k := has_no hi_13
            refine W.eq (g2 := F0 m 66 ls [.int 0]) rfl ?_
            refine lv_if_ne (tgt := 75) hx hb dX3_hang_66 (by decide) (fun c => absurd c (by decide)) (fun _ => ?_)
            refine lv_aload_n hx hb dX3_hang_69 rfl (lv_at hl 2 rfl) ?_
            refine lv_iconst (v := 3) hx hb dX3_hang_70 (by decide) ?_
            refine ca_V (As := [.int 3]) (rest := []) (r0 := (RX3, TX3, 2)) (ci := 2) ⟨hx, hb, hml, hown, hts⟩ (cc_X3_fail l E A _ 3 hR) (cwV 1 hts gX3_hang_X3_fail rfl rfl rfl (by decide +kernel) ⟨(Nat.le_of_ble_eq_true rfl), (Nat.le_of_ble_eq_true rfl)⟩) hT hI hA hS rfl hR.1 rfl rfl hl.1 (Nat.le_of_ble_eq_true rfl) dX3_hang_71 ⟨(Nat.le_of_ble_eq_true rfl), (Nat.le_of_ble_eq_true rfl)⟩ (fun r w_15 H locs hp_14 hI hS => ?_)
            obtain ⟨rfl, hR⟩ := hp_14
            refine W.eq (g2 := F0 m 74 ls [.int 0]) rfl ?_
            exact re_i hx hb hr hlocks hT hA hS hI (PoC.of (by
                            unfold sp_hang
                            try simp only [pv_nI hpj, pv_nI hoj]
                            rw [if_neg ((fun q => q.elim ho_3 ho_6)), if_neg (ez9), if_neg ((not_not_intro hk9)), if_neg (not_not_intro (Or.inl ez10)), if_pos (hi_13)]
                            try rfl) hR rfl) (Nat.le_of_ble_eq_true rfl) (Nat.le_of_ble_eq_true rfl) dX3_hang_74
        · refine W.eq (g2 := F0 m 38 ls [.ref (aR D (sPl S oj))]) (by rw [ep10]; rfl) ?_
          refine lv_astore (lv' := [(5, .ref (aR D (sPl S oj))), (4, .ref (aR D (sPl S pj))), (0, .ref (aH D)), (1, .int (nI pj)), (2, .int k), (3, .int (nI oj))]) hx hb dX3_hang_38 hl (by decide) rfl (fun ls hl => ?_)
          refine lv_aload hx hb dX3_hang_40 (lv_at hl 0 rfl) ?_
          refine lv_ifnull hx hb dX3_hang_42 ?_
          refine lv_aload hx hb dX3_hang_45 (lv_at hl 0 rfl) ?_
          refine wr_get (ci := 0) (C := RX1) (T := TX1) (N := 4) (v := .int (kdv S (sPl S oj))) hx hb hts in_X1 hown hT hI (hR.2.2.1 _ hv10).1 rfl 0 (by decide) (hts (.fieldLink RX3 53 "CopyRows$Row" "kind" "I") (by decide +kernel)) rfl dX3_hang_47 ?_
          refine lv_iconst (v := 1) hx hb dX3_hang_50 (by decide) ?_
          refine lv_icmp_eq (tgt := 60) hx hb dX3_hang_51 (by decide) (fun c_16 => ?_) (fun c_16 => ?_)
          · refine lv_aload hx hb dX3_hang_60 (lv_at hl 1 rfl) ?_
            refine lv_iload_n hx hb dX3_hang_62 rfl (lv_at hl 4 rfl) ?_
            refine ca_V (As := [.int k]) (rest := []) (r0 := (RX1, TX1, 4)) (ci := 0) ⟨hx, hb, hml, hown, hts⟩ (cc_X1_has l E A _ k (hR.2.2.1 _ hv9).1) (cwV 1 hts gX3_hang_X1_has rfl rfl rfl (by decide +kernel) ⟨(Nat.le_of_ble_eq_true rfl), (Nat.le_of_ble_eq_true rfl)⟩) hT hI hA hS rfl (hR.2.2.1 _ hv9).1 rfl rfl hl.1 (Nat.le_of_ble_eq_true rfl) dX3_hang_63 ⟨(Nat.le_of_ble_eq_true rfl), (Nat.le_of_ble_eq_true rfl)⟩ (fun r w_18 H locs hp_17 hI hS => ?_)
            obtain ⟨rfl, ⟨hi_19, rfl⟩ | ⟨hi_19, rfl⟩⟩ := hp_17
            · have hi_19 : ¬ oI (lnv S (sPl S pj)) k := has_yes hi_19
              refine W.eq (g2 := F0 m 66 ls [.int 1]) rfl ?_
              refine lv_if_ne (tgt := 75) hx hb dX3_hang_66 (by decide) (fun _ => ?_) (fun c => absurd c (by decide))
              obtain ⟨kj, hkj, rfl⟩ := oI_nat (hW.ln hv9) hi_19
              refine lv_aload hx hb dX3_hang_75 (lv_at hl 1 rfl) ?_
              refine wr_get (ci := 0) (C := RX1) (T := TX1) (N := 4) (v := .ref (aQ D (sPl S pj))) hx hb hts in_X1 hown hT hI (hR.2.2.1 _ hv9).1 rfl 3 (by decide) (hts (.fieldLink RX3 63 "CopyRows$Row" "parts" "[LCopyRows$Part;") (by decide +kernel)) rfl dX3_hang_77 ?_
              refine lv_iload_n hx hb dX3_hang_80 rfl (lv_at hl 4 rfl) ?_
              refine lv_aload hx hb dX3_hang_81 (lv_at hl 0 rfl) ?_
              refine W.eq (g2 := F0 m 83 ls (va_rf (some (aR D (sPl S oj))) :: .int (nI kj) :: .ref (aQ D (sPl S pj)) :: [])) rfl ?_
              refine wr_aastV (t := kj) (n := lnv S (sPl S pj)) (o := some (aR D (sPl S oj))) (f := fun k9 => pO D (kdv S (sPl S pj)) (itv S (sPl S pj) k9)) hx hb hT hI hS (hR.par hv9 hkn9) 1 rfl (fun v9 hv9 => by cases hv9; exact wr_any hT hI (hR.2.2.1 _ hv10).1 (r := (RX1, TX1, 4)) rfl hT.2.2.2.2.2.2.2.1) (by omega) (by omega) dX3_hang_83 (fun H locs hI hS => ?_)
              have hR := hR.parW (v := sPl S pj) hr9 hkn9 (upd (itv S (sPl S pj)) kj (sPl S oj)) (pO_upd (show pO D (kdv S (sPl S pj)) (sPl S oj) = some (aR D (sPl S oj)) from by rw [hk9]; exact pO_row ez10))
              refine lv_iconst (v := 1) hx hb dX3_hang_84 (by decide) ?_
              exact re_i hx hb hr hlocks hT hA hS hI (PoC.of (by
                                unfold sp_hang
                                try simp only [pv_nI hpj, pv_nI hoj, ix_nI (show kj < 2 ^ 31 by omega)]
                                rw [if_neg ((fun q => q.elim ho_3 ho_6)), if_neg (ez9), if_neg ((not_not_intro hk9)), if_neg (not_not_intro (Or.inr c_16)), if_neg (hi_19)]
                                try rfl) hR rfl) (Nat.le_of_ble_eq_true rfl) (Nat.le_of_ble_eq_true rfl) dX3_hang_85
            · have hi_19 : oI (lnv S (sPl S pj)) k := has_no hi_19
              refine W.eq (g2 := F0 m 66 ls [.int 0]) rfl ?_
              refine lv_if_ne (tgt := 75) hx hb dX3_hang_66 (by decide) (fun c => absurd c (by decide)) (fun _ => ?_)
              refine lv_aload_n hx hb dX3_hang_69 rfl (lv_at hl 2 rfl) ?_
              refine lv_iconst (v := 3) hx hb dX3_hang_70 (by decide) ?_
              refine ca_V (As := [.int 3]) (rest := []) (r0 := (RX3, TX3, 2)) (ci := 2) ⟨hx, hb, hml, hown, hts⟩ (cc_X3_fail l E A _ 3 hR) (cwV 1 hts gX3_hang_X3_fail rfl rfl rfl (by decide +kernel) ⟨(Nat.le_of_ble_eq_true rfl), (Nat.le_of_ble_eq_true rfl)⟩) hT hI hA hS rfl hR.1 rfl rfl hl.1 (Nat.le_of_ble_eq_true rfl) dX3_hang_71 ⟨(Nat.le_of_ble_eq_true rfl), (Nat.le_of_ble_eq_true rfl)⟩ (fun r w_21 H locs hp_20 hI hS => ?_)
              obtain ⟨rfl, hR⟩ := hp_20
              refine W.eq (g2 := F0 m 74 ls [.int 0]) rfl ?_
              exact re_i hx hb hr hlocks hT hA hS hI (PoC.of (by
                                unfold sp_hang
                                try simp only [pv_nI hpj, pv_nI hoj]
                                rw [if_neg ((fun q => q.elim ho_3 ho_6)), if_neg (ez9), if_neg ((not_not_intro hk9)), if_neg (not_not_intro (Or.inr c_16)), if_pos (hi_19)]
                                try rfl) hR rfl) (Nat.le_of_ble_eq_true rfl) (Nat.le_of_ble_eq_true rfl) dX3_hang_74
          · refine lv_aload_n hx hb dX3_hang_54 rfl (lv_at hl 2 rfl) ?_
            refine lv_iconst (v := 5) hx hb dX3_hang_55 (by decide) ?_
            refine ca_V (As := [.int 5]) (rest := []) (r0 := (RX3, TX3, 2)) (ci := 2) ⟨hx, hb, hml, hown, hts⟩ (cc_X3_fail l E A _ 5 hR) (cwV 1 hts gX3_hang_X3_fail rfl rfl rfl (by decide +kernel) ⟨(Nat.le_of_ble_eq_true rfl), (Nat.le_of_ble_eq_true rfl)⟩) hT hI hA hS rfl hR.1 rfl rfl hl.1 (Nat.le_of_ble_eq_true rfl) dX3_hang_56 ⟨(Nat.le_of_ble_eq_true rfl), (Nat.le_of_ble_eq_true rfl)⟩ (fun r w_23 H locs hp_22 hI hS => ?_)
            obtain ⟨rfl, hR⟩ := hp_22
            refine W.eq (g2 := F0 m 59 ls [.int 0]) rfl ?_
            exact re_i hx hb hr hlocks hT hA hS hI (PoC.of (by
                            unfold sp_hang
                            try simp only [pv_nI hpj, pv_nI hoj]
                            rw [if_neg ((fun q => q.elim ho_3 ho_6)), if_neg (ez9), if_neg ((not_not_intro hk9)), if_pos (fun q => q.elim ez10 c_16)]
                            try rfl) hR rfl) (Nat.le_of_ble_eq_true rfl) (Nat.le_of_ble_eq_true rfl) dX3_hang_59

set_option maxHeartbeats 4000000 in
set_option maxRecDepth 100000 in
theorem cc_X3_item (l : Launch) (E : En) (A : Nat → Prop) (w : Wd) {S : Sx} {D : Ad} (p k : Int32) (hW : Wf S) (hR : Rp E S D w) (hb9 : sNr S < 512 ∧ sNt S < 512 ∧ sNl S < 512) : Ct l yX3_item wsX3_item ({ frames := 1, cells := 0, slots := 0, locals := 23 } : Room) E A w [.ref (aH D), .int p, .int k] (fun r w' => PoC E D (sp_item S p k) r w') 0 0 := by
  refine Met.ofW (cc := cX3_item) (maxL := 5) (ret := (some .int)) (by decide) rfl ?_
  intro pp0 ee0 s m args below meth cc0 s₁ B hml hv
  obtain ⟨rfl, hT, hI, hA⟩ := hv
  have hx := B.exec
  have hb := B.bytes
  have hr := B.returns
  have hts := atoms_spec (ws := wsX3_item) B.pre
  have hown : s.vm.findClass RX3 = some m.cls := findClass_of_methodNamed B.named
  have hlocks := B.notSynchronized
  have in_X1 : ∀ w ∈ wsX10, w ∈ wsX3_item := by decide +kernel
  have hS : va_S A s.heap s.heap [] := va_S.rf
  have hl := lv_entry ([.ref (aH D), .int p, .int k]) (n := 5) (Nat.le_of_ble_eq_true rfl)
  rw [lg_entry_eq]
  generalize (lg_sl ([.ref (aH D), .int p, .int k]) ++ List.replicate (5 - (lg_sl ([.ref (aH D), .int p, .int k])).length) Slot.unset).toArray = ls at hl ⊢
  have hl : lv_has ls 5 [(0, .ref (aH D)), (1, .int p), (2, .int k)] := hl
  refine lv_iload_n hx hb dX3_item_0 rfl (lv_at hl 1 rfl) ?_
  refine ca_S (As := [.int p]) (rest := []) ⟨hx, hb, hml, hown, hts⟩ (cc_X3_isOutside l E A _ p) (va_cwS 1 hts gX3_item_X3_isOutside rfl rfl rfl (by decide +kernel) ⟨(Nat.le_of_ble_eq_true rfl), (Nat.le_of_ble_eq_true rfl)⟩) hT hI hA hS rfl rfl hl.1 (Nat.le_of_ble_eq_true rfl) dX3_item_1 ⟨(Nat.le_of_ble_eq_true rfl), (Nat.le_of_ble_eq_true rfl)⟩ (fun r w_2 H locs hp_1 hI hS => ?_)
  obtain ⟨rfl, ⟨ho_3, rfl⟩ | ⟨ho_3, rfl⟩⟩ := hp_1
  · refine W.eq (g2 := F0 m 4 ls [.int 1]) rfl ?_
    refine lv_if_eq (tgt := 10) hx hb dX3_item_4 (by decide) (fun c => absurd c (by decide)) (fun _ => ?_)
    refine lv_ldc (v := -2000000001) hx hb hown (hts (.constant RX3 23 (-2000000001)) (by decide +kernel)) dX3_item_7 ?_
    exact re_i hx hb hr hlocks hT hA hS hI (PoC.of (by
            unfold sp_item
            rw [if_pos (ho_3)]
            try rfl) hR rfl) (Nat.le_of_ble_eq_true rfl) (Nat.le_of_ble_eq_true rfl) dX3_item_9
  · refine W.eq (g2 := F0 m 4 ls [.int 0]) rfl ?_
    refine lv_if_eq (tgt := 10) hx hb dX3_item_4 (by decide) (fun _ => ?_) (fun c => absurd c (by decide))
    refine lv_aload_n hx hb dX3_item_10 rfl (lv_at hl 0 rfl) ?_
    refine lv_iload_n hx hb dX3_item_11 rfl (lv_at hl 1 rfl) ?_
    refine lv_bipush (v := 63) hx hb dX3_item_12 (by decide) ?_
    obtain ⟨pj, hpj, rfl⟩ := isP_nat ho_3
    refine ca_V (As := [.int (nI pj), .int 63]) (rest := []) (r0 := (RX3, TX3, 2)) (ci := 2) ⟨hx, hb, hml, hown, hts⟩ (cc_X3_rowOf l E A _ (by omega) msk63 hW hR) (cwV 2 hts gX3_item_X3_rowOf rfl rfl rfl (by decide +kernel) ⟨(Nat.le_of_ble_eq_true rfl), (Nat.le_of_ble_eq_true rfl)⟩) hT hI hA hS rfl hR.1 rfl rfl hl.1 (Nat.le_of_ble_eq_true rfl) dX3_item_14 ⟨(Nat.le_of_ble_eq_true rfl), (Nat.le_of_ble_eq_true rfl)⟩ (fun r w_5 H locs hp_4 hI hS => ?_)
    rcases hp_4 with ⟨ez6, rfl, hR⟩ | ⟨ez6, hv6, hk6, rfl, hR⟩ | ⟨ez6, hv6, hk6, rfl, hR⟩
    · refine W.eq (g2 := F0 m 17 ls [.null]) rfl ?_
      refine lv_astore_nN (lv' := [(3, .null), (0, .ref (aH D)), (1, .int (nI pj)), (2, .int k)]) hx hb dX3_item_17 rfl hl (by decide) rfl (fun ls hl => ?_)
      refine lv_aload_nN hx hb dX3_item_18 rfl (lv_at hl 0 rfl) ?_
      refine lv_ifnonnullN hx hb dX3_item_19 ?_
      refine lv_iconst (v := 0) hx hb dX3_item_22 (by decide) ?_
      exact re_i hx hb hr hlocks hT hA hS hI (PoC.of (by
                unfold sp_item
                try simp only [pv_nI hpj]
                rw [if_neg (ho_3), if_pos (ez6)]
                try rfl) hR rfl) (Nat.le_of_ble_eq_true rfl) (Nat.le_of_ble_eq_true rfl) dX3_item_23
    · refine W.eq (g2 := F0 m 17 ls [.null]) rfl ?_
      refine lv_astore_nN (lv' := [(3, .null), (0, .ref (aH D)), (1, .int (nI pj)), (2, .int k)]) hx hb dX3_item_17 rfl hl (by decide) rfl (fun ls hl => ?_)
      refine lv_aload_nN hx hb dX3_item_18 rfl (lv_at hl 0 rfl) ?_
      refine lv_ifnonnullN hx hb dX3_item_19 ?_
      refine lv_iconst (v := 0) hx hb dX3_item_22 (by decide) ?_
      exact re_i hx hb hr hlocks hT hA hS hI (PoC.of (by
                unfold sp_item
                try simp only [pv_nI hpj]
                rw [if_neg (ho_3), if_neg (ez6), if_pos ((Classical.not_not.mp hk6))]
                try rfl) hR rfl) (Nat.le_of_ble_eq_true rfl) (Nat.le_of_ble_eq_true rfl) dX3_item_23
    · have hln6 := hW.ln hv6
      have hr6 : vR S (sPl S pj) := vO_row hv6 hk6
      refine W.eq (g2 := F0 m 17 ls [.ref (aR D (sPl S pj))]) rfl ?_
      refine lv_astore_n (lv' := [(3, .ref (aR D (sPl S pj))), (0, .ref (aH D)), (1, .int (nI pj)), (2, .int k)]) hx hb dX3_item_17 rfl hl (by decide) rfl (fun ls hl => ?_)
      refine lv_aload_n hx hb dX3_item_18 rfl (lv_at hl 0 rfl) ?_
      refine lv_ifnonnull (tgt := 24) hx hb dX3_item_19 (by decide) ?_
      refine lv_aload_n hx hb dX3_item_24 rfl (lv_at hl 0 rfl) ?_
      refine lv_iload_n hx hb dX3_item_25 rfl (lv_at hl 3 rfl) ?_
      refine ca_V (As := [.int k]) (rest := []) (r0 := (RX1, TX1, 4)) (ci := 0) ⟨hx, hb, hml, hown, hts⟩ (cc_X1_has l E A _ k (hR.2.2.1 _ hv6).1) (cwV 1 hts gX3_item_X1_has rfl rfl rfl (by decide +kernel) ⟨(Nat.le_of_ble_eq_true rfl), (Nat.le_of_ble_eq_true rfl)⟩) hT hI hA hS rfl (hR.2.2.1 _ hv6).1 rfl rfl hl.1 (Nat.le_of_ble_eq_true rfl) dX3_item_26 ⟨(Nat.le_of_ble_eq_true rfl), (Nat.le_of_ble_eq_true rfl)⟩ (fun r w_8 H locs hp_7 hI hS => ?_)
      obtain ⟨rfl, ⟨hi_9, rfl⟩ | ⟨hi_9, rfl⟩⟩ := hp_7
      · have hi_9 : ¬ oI (lnv S (sPl S pj)) k := has_yes hi_9
        refine W.eq (g2 := F0 m 29 ls [.int 1]) rfl ?_
        refine lv_if_ne (tgt := 38) hx hb dX3_item_29 (by decide) (fun _ => ?_) (fun c => absurd c (by decide))
        obtain ⟨kj, hkj, rfl⟩ := oI_nat (hW.ln hv6) hi_9
        refine lv_aload_n hx hb dX3_item_38 rfl (lv_at hl 0 rfl) ?_
        refine ca_V (As := []) (rest := []) (r0 := (RX1, TX1, 4)) (ci := 0) ⟨hx, hb, hml, hown, hts⟩ (cc_X1_isOfNumbers l E A _ (hR.2.2.1 _ hv6).1) (cwV 0 hts gX3_item_X1_isOfNumbers rfl rfl rfl (by decide +kernel) ⟨(Nat.le_of_ble_eq_true rfl), (Nat.le_of_ble_eq_true rfl)⟩) hT hI hA hS rfl (hR.2.2.1 _ hv6).1 rfl rfl hl.1 (Nat.le_of_ble_eq_true rfl) dX3_item_39 ⟨(Nat.le_of_ble_eq_true rfl), (Nat.le_of_ble_eq_true rfl)⟩ (fun r w_11 H locs hp_10 hI hS => ?_)
        obtain ⟨rfl, ⟨hn_12, rfl⟩ | ⟨hn_12, rfl⟩⟩ := hp_10
        · have hn_12 : isN (kdv S (sPl S pj)) := hn_12
          refine W.eq (g2 := F0 m 42 ls [.int 1]) rfl ?_
          refine lv_if_eq (tgt := 52) hx hb dX3_item_42 (by decide) (fun c => absurd c (by decide)) (fun _ => ?_)
          refine lv_aload_n hx hb dX3_item_45 rfl (lv_at hl 0 rfl) ?_
          refine wr_get (ci := 0) (C := RX1) (T := TX1) (N := 4) (v := .ref (aN D (sPl S pj))) hx hb hts in_X1 hown hT hI (hR.2.2.1 _ hv6).1 rfl 2 (by decide) (hts (.fieldLink RX3 49 "CopyRows$Row" "numbers" "[I") (by decide +kernel)) rfl dX3_item_46 ?_
          refine lv_iload_n hx hb dX3_item_49 rfl (lv_at hl 3 rfl) ?_
          refine wr_ialdN (t := kj) (n := lnv S (sPl S pj)) (f := itv S (sPl S pj)) hx hb hT hI (hR.num hv6 hn_12) (by omega) (by omega) dX3_item_50 ?_
          exact re_i hx hb hr hlocks hT hA hS hI (PoC.of (by
                        unfold sp_item
                        try simp only [pv_nI hpj, ix_nI (show kj < 2 ^ 31 by omega)]
                        rw [if_neg (ho_3), if_neg (ez6), if_neg (hk6), if_neg (hi_9), if_pos (hn_12)]
                        try rfl) hR rfl) (Nat.le_of_ble_eq_true rfl) (Nat.le_of_ble_eq_true rfl) dX3_item_51
        · have hn_12 : ¬ isN (kdv S (sPl S pj)) := hn_12
          refine W.eq (g2 := F0 m 42 ls [.int 0]) rfl ?_
          refine lv_if_eq (tgt := 52) hx hb dX3_item_42 (by decide) (fun _ => ?_) (fun c => absurd c (by decide))
          refine lv_aload_n hx hb dX3_item_52 rfl (lv_at hl 0 rfl) ?_
          refine wr_get (ci := 0) (C := RX1) (T := TX1) (N := 4) (v := .ref (aQ D (sPl S pj))) hx hb hts in_X1 hown hT hI (hR.2.2.1 _ hv6).1 rfl 3 (by decide) (hts (.fieldLink RX3 63 "CopyRows$Row" "parts" "[LCopyRows$Part;") (by decide +kernel)) rfl dX3_item_53 ?_
          refine lv_iload_n hx hb dX3_item_56 rfl (lv_at hl 3 rfl) ?_
          refine wr_aaldN (t := kj) (n := lnv S (sPl S pj)) (f := fun k9 => pO D (kdv S (sPl S pj)) (itv S (sPl S pj) k9)) hx hb hT hI (hR.par hv6 hn_12) 1 rfl (by omega) (by omega) dX3_item_57 ?_
          rcases hW.part D hr6 hn_12 kj with ⟨ei13, eo13⟩ | ⟨ei13, ek13, hx13, hxk13, eo13⟩ | ⟨ei13, ek13, hx13, eo13⟩
          · refine W.eq (g2 := F0 m 58 ls [.null]) (by first | (rw [eo13]; rfl) | (dsimp only; rw [eo13]; rfl)) ?_
            refine lv_astoreN (lv' := [(4, .null), (3, .ref (aR D (sPl S pj))), (0, .ref (aH D)), (1, .int (nI pj)), (2, .int (nI kj))]) hx hb dX3_item_58 hl (by decide) rfl (fun ls hl => ?_)
            refine lv_aloadN hx hb dX3_item_60 (lv_at hl 0 rfl) ?_
            refine lv_ifnonnullN hx hb dX3_item_62 ?_
            refine lv_aload_n hx hb dX3_item_65 rfl (lv_at hl 2 rfl) ?_
            refine lv_iconst (v := 1) hx hb dX3_item_66 (by decide) ?_
            refine ca_V (As := [.int 1]) (rest := []) (r0 := (RX3, TX3, 2)) (ci := 2) ⟨hx, hb, hml, hown, hts⟩ (cc_X3_fail l E A _ 1 hR) (cwV 1 hts gX3_item_X3_fail rfl rfl rfl (by decide +kernel) ⟨(Nat.le_of_ble_eq_true rfl), (Nat.le_of_ble_eq_true rfl)⟩) hT hI hA hS rfl hR.1 rfl rfl hl.1 (Nat.le_of_ble_eq_true rfl) dX3_item_67 ⟨(Nat.le_of_ble_eq_true rfl), (Nat.le_of_ble_eq_true rfl)⟩ (fun r w_15 H locs hp_14 hI hS => ?_)
            obtain ⟨rfl, hR⟩ := hp_14
            refine W.eq (g2 := F0 m 70 ls [.int 0]) rfl ?_
            refine lv_goto (tgt := 78) hx hb dX3_item_70 (by decide) ?_
            exact re_i hx hb hr hlocks hT hA hS hI (PoC.of (by
                            unfold sp_item
                            try simp only [pv_nI hpj, ix_nI (show kj < 2 ^ 31 by omega)]
                            rw [if_neg (ho_3), if_neg (ez6), if_neg (hk6), if_neg (hi_9), if_neg (hn_12), if_pos (ei13)]
                            try rfl) hR rfl) (Nat.le_of_ble_eq_true rfl) (Nat.le_of_ble_eq_true rfl) dX3_item_78
          · refine W.eq (g2 := F0 m 58 ls [.ref (aR D (itv S (sPl S pj) kj))]) (by first | (rw [eo13]; rfl) | (dsimp only; rw [eo13]; rfl)) ?_
            refine lv_astore (lv' := [(4, .ref (aR D (itv S (sPl S pj) kj))), (3, .ref (aR D (sPl S pj))), (0, .ref (aH D)), (1, .int (nI pj)), (2, .int (nI kj))]) hx hb dX3_item_58 hl (by decide) rfl (fun ls hl => ?_)
            refine lv_aload hx hb dX3_item_60 (lv_at hl 0 rfl) ?_
            refine lv_ifnonnull (tgt := 73) hx hb dX3_item_62 (by decide) ?_
            refine lv_aload hx hb dX3_item_73 (lv_at hl 0 rfl) ?_
            refine ca_U (As := []) (rest := []) (r0 := (RX1, TX1, 4)) (ci := 0) ⟨hx, hb, hml, hown, hts⟩ (cc_X1_shown l E A _ (hR.2.2.1 _ (Or.inl hx13)).1) (va_cwA 0 hts gX3_item_X1_shown_u71X1 rfl rfl rfl hT.2.2.2.2.2.2.1 (by decide +kernel) ⟨(Nat.le_of_ble_eq_true rfl), (Nat.le_of_ble_eq_true rfl)⟩) hT hI hA hS rfl (hR.2.2.1 _ (Or.inl hx13)).1 rfl rfl hl.1 (Nat.le_of_ble_eq_true rfl) dX3_item_75 ⟨(Nat.le_of_ble_eq_true rfl), (Nat.le_of_ble_eq_true rfl)⟩ (fun r w_17 H locs hp_16 hI hS => ?_)
            obtain ⟨rfl, rfl⟩ := hp_16
            refine W.eq (g2 := F0 m 78 ls [.int (nI (lnv S (itv S (sPl S pj) kj)))]) rfl ?_
            exact re_i hx hb hr hlocks hT hA hS hI (PoC.of (by
                            unfold sp_item
                            try simp only [pv_nI hpj, ix_nI (show kj < 2 ^ 31 by omega)]
                            rw [if_neg (ho_3), if_neg (ez6), if_neg (hk6), if_neg (hi_9), if_neg (hn_12), if_neg (ei13)]
                            rw [if_pos ek13]) hR rfl) (Nat.le_of_ble_eq_true rfl) (Nat.le_of_ble_eq_true rfl) dX3_item_78
          · refine W.eq (g2 := F0 m 58 ls [.ref (aT D (itv S (sPl S pj) kj))]) (by first | (rw [eo13]; rfl) | (dsimp only; rw [eo13]; rfl)) ?_
            refine lv_astore (lv' := [(4, .ref (aT D (itv S (sPl S pj) kj))), (3, .ref (aR D (sPl S pj))), (0, .ref (aH D)), (1, .int (nI pj)), (2, .int (nI kj))]) hx hb dX3_item_58 hl (by decide) rfl (fun ls hl => ?_)
            refine lv_aload hx hb dX3_item_60 (lv_at hl 0 rfl) ?_
            refine lv_ifnonnull (tgt := 73) hx hb dX3_item_62 (by decide) ?_
            refine lv_aload hx hb dX3_item_73 (lv_at hl 0 rfl) ?_
            refine ca_U (As := []) (rest := []) (r0 := (RX2, TX2, 2)) (ci := 1) ⟨hx, hb, hml, hown, hts⟩ (cc_X2_shown l E A _ (hR.2.2.2.1 _ hx13)) (va_cwA 0 hts gX3_item_X2_shown_u71X2 rfl rfl rfl hT.2.2.2.2.2.2.1 (by decide +kernel) ⟨(Nat.le_of_ble_eq_true rfl), (Nat.le_of_ble_eq_true rfl)⟩) hT hI hA hS rfl (hR.2.2.2.1 _ hx13) rfl rfl hl.1 (Nat.le_of_ble_eq_true rfl) dX3_item_75 ⟨(Nat.le_of_ble_eq_true rfl), (Nat.le_of_ble_eq_true rfl)⟩ (fun r w_19 H locs hp_18 hI hS => ?_)
            obtain ⟨rfl, rfl⟩ := hp_18
            refine W.eq (g2 := F0 m 78 ls [.int (sNu S (ix (itv S (sPl S pj) kj)))]) rfl ?_
            exact re_i hx hb hr hlocks hT hA hS hI (PoC.of (by
                            unfold sp_item
                            try simp only [pv_nI hpj, ix_nI (show kj < 2 ^ 31 by omega)]
                            rw [if_neg (ho_3), if_neg (ez6), if_neg (hk6), if_neg (hi_9), if_neg (hn_12), if_neg (ei13)]
                            rw [if_neg ek13]) hR rfl) (Nat.le_of_ble_eq_true rfl) (Nat.le_of_ble_eq_true rfl) dX3_item_78
      · have hi_9 : oI (lnv S (sPl S pj)) k := has_no hi_9
        refine W.eq (g2 := F0 m 29 ls [.int 0]) rfl ?_
        refine lv_if_ne (tgt := 38) hx hb dX3_item_29 (by decide) (fun c => absurd c (by decide)) (fun _ => ?_)
        refine lv_aload_n hx hb dX3_item_32 rfl (lv_at hl 1 rfl) ?_
        refine lv_iconst (v := 3) hx hb dX3_item_33 (by decide) ?_
        refine ca_V (As := [.int 3]) (rest := []) (r0 := (RX3, TX3, 2)) (ci := 2) ⟨hx, hb, hml, hown, hts⟩ (cc_X3_fail l E A _ 3 hR) (cwV 1 hts gX3_item_X3_fail rfl rfl rfl (by decide +kernel) ⟨(Nat.le_of_ble_eq_true rfl), (Nat.le_of_ble_eq_true rfl)⟩) hT hI hA hS rfl hR.1 rfl rfl hl.1 (Nat.le_of_ble_eq_true rfl) dX3_item_34 ⟨(Nat.le_of_ble_eq_true rfl), (Nat.le_of_ble_eq_true rfl)⟩ (fun r w_21 H locs hp_20 hI hS => ?_)
        obtain ⟨rfl, hR⟩ := hp_20
        refine W.eq (g2 := F0 m 37 ls [.int 0]) rfl ?_
        exact re_i hx hb hr hlocks hT hA hS hI (PoC.of (by
                    unfold sp_item
                    try simp only [pv_nI hpj]
                    rw [if_neg (ho_3), if_neg (ez6), if_neg (hk6), if_pos (hi_9)]
                    try rfl) hR rfl) (Nat.le_of_ble_eq_true rfl) (Nat.le_of_ble_eq_true rfl) dX3_item_37

set_option maxHeartbeats 4000000 in
set_option maxRecDepth 100000 in
theorem cc_X3_classOf (l : Launch) (E : En) (A : Nat → Prop) (w : Wd) {S : Sx} {D : Ad} (p k : Int32) (hW : Wf S) (hR : Rp E S D w) (hb9 : sNr S < 512 ∧ sNt S < 512 ∧ sNl S < 512) : Ct l yX3_classOf wsX3_classOf ({ frames := 1, cells := 0, slots := 0, locals := 23 } : Room) E A w [.ref (aH D), .int p, .int k] (fun r w' => PoC E D (sp_classOf S p k) r w') 0 0 := by
  refine Met.ofW (cc := cX3_classOf) (maxL := 6) (ret := (some .int)) (by decide) rfl ?_
  intro pp0 ee0 s m args below meth cc0 s₁ B hml hv
  obtain ⟨rfl, hT, hI, hA⟩ := hv
  have hx := B.exec
  have hb := B.bytes
  have hr := B.returns
  have hts := atoms_spec (ws := wsX3_classOf) B.pre
  have hown : s.vm.findClass RX3 = some m.cls := findClass_of_methodNamed B.named
  have hlocks := B.notSynchronized
  have in_X1 : ∀ w ∈ wsX10, w ∈ wsX3_classOf := by decide +kernel
  have in_X2 : ∀ w ∈ wsX20, w ∈ wsX3_classOf := by decide +kernel
  have hS : va_S A s.heap s.heap [] := va_S.rf
  have hl := lv_entry ([.ref (aH D), .int p, .int k]) (n := 6) (Nat.le_of_ble_eq_true rfl)
  rw [lg_entry_eq]
  generalize (lg_sl ([.ref (aH D), .int p, .int k]) ++ List.replicate (6 - (lg_sl ([.ref (aH D), .int p, .int k])).length) Slot.unset).toArray = ls at hl ⊢
  have hl : lv_has ls 6 [(0, .ref (aH D)), (1, .int p), (2, .int k)] := hl
  refine lv_iload_n hx hb dX3_classOf_0 rfl (lv_at hl 1 rfl) ?_
  refine ca_S (As := [.int p]) (rest := []) ⟨hx, hb, hml, hown, hts⟩ (cc_X3_isOutside l E A _ p) (va_cwS 1 hts gX3_classOf_X3_isOutside rfl rfl rfl (by decide +kernel) ⟨(Nat.le_of_ble_eq_true rfl), (Nat.le_of_ble_eq_true rfl)⟩) hT hI hA hS rfl rfl hl.1 (Nat.le_of_ble_eq_true rfl) dX3_classOf_1 ⟨(Nat.le_of_ble_eq_true rfl), (Nat.le_of_ble_eq_true rfl)⟩ (fun r w_2 H locs hp_1 hI hS => ?_)
  obtain ⟨rfl, ⟨ho_3, rfl⟩ | ⟨ho_3, rfl⟩⟩ := hp_1
  · refine W.eq (g2 := F0 m 4 ls [.int 1]) rfl ?_
    refine lv_if_eq (tgt := 10) hx hb dX3_classOf_4 (by decide) (fun c => absurd c (by decide)) (fun _ => ?_)
    refine lv_ldc (v := -2000000001) hx hb hown (hts (.constant RX3 23 (-2000000001)) (by decide +kernel)) dX3_classOf_7 ?_
    exact re_i hx hb hr hlocks hT hA hS hI (PoC.of (by
            unfold sp_classOf
            rw [if_pos (ho_3)]) hR rfl) (Nat.le_of_ble_eq_true rfl) (Nat.le_of_ble_eq_true rfl) dX3_classOf_9
  · refine W.eq (g2 := F0 m 4 ls [.int 0]) rfl ?_
    refine lv_if_eq (tgt := 10) hx hb dX3_classOf_4 (by decide) (fun _ => ?_) (fun c => absurd c (by decide))
    refine lv_aload_n hx hb dX3_classOf_10 rfl (lv_at hl 0 rfl) ?_
    refine lv_iload_n hx hb dX3_classOf_11 rfl (lv_at hl 1 rfl) ?_
    refine lv_bipush (v := 56) hx hb dX3_classOf_12 (by decide) ?_
    obtain ⟨pj, hpj, rfl⟩ := isP_nat ho_3
    refine ca_V (As := [.int (nI pj), .int 56]) (rest := []) (r0 := (RX3, TX3, 2)) (ci := 2) ⟨hx, hb, hml, hown, hts⟩ (cc_X3_rowOf l E A _ (by omega) msk56 hW hR) (cwV 2 hts gX3_classOf_X3_rowOf rfl rfl rfl (by decide +kernel) ⟨(Nat.le_of_ble_eq_true rfl), (Nat.le_of_ble_eq_true rfl)⟩) hT hI hA hS rfl hR.1 rfl rfl hl.1 (Nat.le_of_ble_eq_true rfl) dX3_classOf_14 ⟨(Nat.le_of_ble_eq_true rfl), (Nat.le_of_ble_eq_true rfl)⟩ (fun r w_5 H locs hp_4 hI hS => ?_)
    rcases hp_4 with ⟨ez6, rfl, hR⟩ | ⟨ez6, hv6, hk6, rfl, hR⟩ | ⟨ez6, hv6, hk6, rfl, hR⟩
    · refine W.eq (g2 := F0 m 17 ls [.null]) rfl ?_
      refine lv_astore_nN (lv' := [(3, .null), (0, .ref (aH D)), (1, .int (nI pj)), (2, .int k)]) hx hb dX3_classOf_17 rfl hl (by decide) rfl (fun ls hl => ?_)
      refine lv_aload_nN hx hb dX3_classOf_18 rfl (lv_at hl 0 rfl) ?_
      refine lv_ifnonnullN hx hb dX3_classOf_19 ?_
      refine lv_iconst (v := 0) hx hb dX3_classOf_22 (by decide) ?_
      exact re_i hx hb hr hlocks hT hA hS hI (PoC.of (by
                unfold sp_classOf
                try simp only [pv_nI hpj]
                rw [if_neg (ho_3), if_pos (ez6)]) hR rfl) (Nat.le_of_ble_eq_true rfl) (Nat.le_of_ble_eq_true rfl) dX3_classOf_23
    · refine W.eq (g2 := F0 m 17 ls [.null]) rfl ?_
      refine lv_astore_nN (lv' := [(3, .null), (0, .ref (aH D)), (1, .int (nI pj)), (2, .int k)]) hx hb dX3_classOf_17 rfl hl (by decide) rfl (fun ls hl => ?_)
      refine lv_aload_nN hx hb dX3_classOf_18 rfl (lv_at hl 0 rfl) ?_
      refine lv_ifnonnullN hx hb dX3_classOf_19 ?_
      refine lv_iconst (v := 0) hx hb dX3_classOf_22 (by decide) ?_
      exact re_i hx hb hr hlocks hT hA hS hI (PoC.of (by
                unfold sp_classOf
                try simp only [pv_nI hpj]
                rw [if_neg (ho_3), if_neg (ez6), if_pos (hk6)]) hR rfl) (Nat.le_of_ble_eq_true rfl) (Nat.le_of_ble_eq_true rfl) dX3_classOf_23
    · have hln6 := hW.ln hv6
      have hkn6 : ¬ isN (kdv S (sPl S pj)) := by rcases hk6 with h | h | h <;> rw [h] <;> decide
      have hr6 : vR S (sPl S pj) := vO_row hv6 (by rcases hk6 with h | h | h <;> rw [h] <;> decide)
      refine W.eq (g2 := F0 m 17 ls [.ref (aR D (sPl S pj))]) rfl ?_
      refine lv_astore_n (lv' := [(3, .ref (aR D (sPl S pj))), (0, .ref (aH D)), (1, .int (nI pj)), (2, .int k)]) hx hb dX3_classOf_17 rfl hl (by decide) rfl (fun ls hl => ?_)
      refine lv_aload_n hx hb dX3_classOf_18 rfl (lv_at hl 0 rfl) ?_
      refine lv_ifnonnull (tgt := 24) hx hb dX3_classOf_19 (by decide) ?_
      refine lv_aload_n hx hb dX3_classOf_24 rfl (lv_at hl 0 rfl) ?_
      refine lv_iload_n hx hb dX3_classOf_25 rfl (lv_at hl 3 rfl) ?_
      refine ca_V (As := [.int k]) (rest := []) (r0 := (RX1, TX1, 4)) (ci := 0) ⟨hx, hb, hml, hown, hts⟩ (cc_X1_has l E A _ k (hR.2.2.1 _ hv6).1) (cwV 1 hts gX3_classOf_X1_has rfl rfl rfl (by decide +kernel) ⟨(Nat.le_of_ble_eq_true rfl), (Nat.le_of_ble_eq_true rfl)⟩) hT hI hA hS rfl (hR.2.2.1 _ hv6).1 rfl rfl hl.1 (Nat.le_of_ble_eq_true rfl) dX3_classOf_26 ⟨(Nat.le_of_ble_eq_true rfl), (Nat.le_of_ble_eq_true rfl)⟩ (fun r w_8 H locs hp_7 hI hS => ?_)
      obtain ⟨rfl, ⟨hi_9, rfl⟩ | ⟨hi_9, rfl⟩⟩ := hp_7
      · have hi_9 : ¬ oI (lnv S (sPl S pj)) k := has_yes hi_9
        refine W.eq (g2 := F0 m 29 ls [.int 1]) rfl ?_
        refine lv_if_ne (tgt := 38) hx hb dX3_classOf_29 (by decide) (fun _ => ?_) (fun c => absurd c (by decide))
        obtain ⟨kj, hkj, rfl⟩ := oI_nat (hW.ln hv6) hi_9
        refine lv_aload_n hx hb dX3_classOf_38 rfl (lv_at hl 0 rfl) ?_
        refine wr_get (ci := 0) (C := RX1) (T := TX1) (N := 4) (v := .ref (aQ D (sPl S pj))) hx hb hts in_X1 hown hT hI (hR.2.2.1 _ hv6).1 rfl 3 (by decide) (hts (.fieldLink RX3 63 "CopyRows$Row" "parts" "[LCopyRows$Part;") (by decide +kernel)) rfl dX3_classOf_39 ?_
        refine lv_iload_n hx hb dX3_classOf_42 rfl (lv_at hl 3 rfl) ?_
        refine wr_aaldN (t := kj) (n := lnv S (sPl S pj)) (f := fun k9 => pO D (kdv S (sPl S pj)) (itv S (sPl S pj) k9)) hx hb hT hI (hR.par hv6 hkn6) 1 rfl (by omega) (by omega) dX3_classOf_43 ?_
        rcases hW.part D hr6 hkn6 kj with ⟨ei10, eo10⟩ | ⟨ei10, ek10, hx10, hxk10, eo10⟩ | ⟨ei10, ek10, hx10, eo10⟩
        · refine W.eq (g2 := F0 m 44 ls [.null]) (by first | (rw [eo10]; rfl) | (dsimp only; rw [eo10]; rfl)) ?_
          refine lv_astoreN (lv' := [(5, .null), (3, .ref (aR D (sPl S pj))), (0, .ref (aH D)), (1, .int (nI pj)), (2, .int (nI kj))]) hx hb dX3_classOf_44 hl (by decide) rfl (fun ls hl => ?_)
          refine lv_aloadN hx hb dX3_classOf_46 (lv_at hl 0 rfl) ?_
          refine lv_instN hx hb dX3_classOf_48 ?_
          refine lv_if_eq (tgt := 69) hx hb dX3_classOf_51 (by decide) (fun _ => ?_) (fun c => absurd c (by decide))
          refine lv_iconst (v := -1) hx hb dX3_classOf_69 (by decide) ?_
          exact re_i hx hb hr hlocks hT hA hS hI (PoC.of (by
                        unfold sp_classOf
                        try simp only [pv_nI hpj, ix_nI (show kj < 2 ^ 31 by omega)]
                        rw [if_neg (ho_3), if_neg (ez6), if_neg ((not_not_intro hk6)), if_neg (hi_9)]
                        rw [if_pos ei10]) hR rfl) (Nat.le_of_ble_eq_true rfl) (Nat.le_of_ble_eq_true rfl) dX3_classOf_70
        · exact absurd ek10 (kT_ne2 hk6)
        · refine W.eq (g2 := F0 m 44 ls [.ref (aT D (itv S (sPl S pj) kj))]) (by first | (rw [eo10]; rfl) | (dsimp only; rw [eo10]; rfl)) ?_
          refine lv_astore (lv' := [(5, .ref (aT D (itv S (sPl S pj) kj))), (3, .ref (aR D (sPl S pj))), (0, .ref (aH D)), (1, .int (nI pj)), (2, .int (nI kj))]) hx hb dX3_classOf_44 hl (by decide) rfl (fun ls hl => ?_)
          refine lv_aload hx hb dX3_classOf_46 (lv_at hl 0 rfl) ?_
          refine va_instY (C := RX2) hx hb hown (hts (.classLink RX3 56 RX2) (by decide +kernel)) hT.2.2.2.2.2.2.2.2.2.2 (wr_recv hT hI (ci := 1) (r := (RX2, TX2, 2)) rfl (hR.2.2.2.1 _ hx10)) dX3_classOf_48 ?_
          refine lv_if_eq (tgt := 69) hx hb dX3_classOf_51 (by decide) (fun c => absurd c (by decide)) (fun _ => ?_)
          refine lv_aload hx hb dX3_classOf_54 (lv_at hl 0 rfl) ?_
          refine va_castY (C := RX2) hx hb hown (hts (.classLink RX3 56 RX2) (by decide +kernel)) hT.2.2.2.2.2.2.2.2.2.2 (wr_recv hT hI (ci := 1) (r := (RX2, TX2, 2)) rfl (hR.2.2.2.1 _ hx10)) dX3_classOf_56 ?_
          refine lv_astore (lv' := [(4, .ref (aT D (itv S (sPl S pj) kj))), (5, .ref (aT D (itv S (sPl S pj) kj))), (3, .ref (aR D (sPl S pj))), (0, .ref (aH D)), (1, .int (nI pj)), (2, .int (nI kj))]) hx hb dX3_classOf_59 hl (by decide) rfl (fun ls hl => ?_)
          refine lv_aload hx hb dX3_classOf_61 (lv_at hl 0 rfl) ?_
          refine wr_get (ci := 1) (C := RX2) (T := TX2) (N := 2) (v := .int (sCl S (ix (itv S (sPl S pj) kj)))) hx hb hts in_X2 hown hT hI (hR.2.2.2.1 _ hx10) rfl 0 (by decide) (hts (.fieldLink RX3 77 "CopyRows$Thing" "cls" "I") (by decide +kernel)) rfl dX3_classOf_63 ?_
          refine lv_goto (tgt := 70) hx hb dX3_classOf_66 (by decide) ?_
          exact re_i hx hb hr hlocks hT hA hS hI (PoC.of (by
                        unfold sp_classOf
                        try simp only [pv_nI hpj, ix_nI (show kj < 2 ^ 31 by omega)]
                        rw [if_neg (ho_3), if_neg (ez6), if_neg ((not_not_intro hk6)), if_neg (hi_9)]
                        rw [if_neg ei10]) hR rfl) (Nat.le_of_ble_eq_true rfl) (Nat.le_of_ble_eq_true rfl) dX3_classOf_70
      · have hi_9 : oI (lnv S (sPl S pj)) k := has_no hi_9
        refine W.eq (g2 := F0 m 29 ls [.int 0]) rfl ?_
        refine lv_if_ne (tgt := 38) hx hb dX3_classOf_29 (by decide) (fun c => absurd c (by decide)) (fun _ => ?_)
        refine lv_aload_n hx hb dX3_classOf_32 rfl (lv_at hl 1 rfl) ?_
        refine lv_iconst (v := 3) hx hb dX3_classOf_33 (by decide) ?_
        refine ca_V (As := [.int 3]) (rest := []) (r0 := (RX3, TX3, 2)) (ci := 2) ⟨hx, hb, hml, hown, hts⟩ (cc_X3_fail l E A _ 3 hR) (cwV 1 hts gX3_classOf_X3_fail rfl rfl rfl (by decide +kernel) ⟨(Nat.le_of_ble_eq_true rfl), (Nat.le_of_ble_eq_true rfl)⟩) hT hI hA hS rfl hR.1 rfl rfl hl.1 (Nat.le_of_ble_eq_true rfl) dX3_classOf_34 ⟨(Nat.le_of_ble_eq_true rfl), (Nat.le_of_ble_eq_true rfl)⟩ (fun r w_12 H locs hp_11 hI hS => ?_)
        obtain ⟨rfl, hR⟩ := hp_11
        refine W.eq (g2 := F0 m 37 ls [.int 0]) rfl ?_
        exact re_i hx hb hr hlocks hT hA hS hI (PoC.of (by
                    unfold sp_classOf
                    try simp only [pv_nI hpj]
                    rw [if_neg (ho_3), if_neg (ez6), if_neg ((not_not_intro hk6)), if_pos (hi_9)]) hR rfl) (Nat.le_of_ble_eq_true rfl) (Nat.le_of_ble_eq_true rfl) dX3_classOf_37
