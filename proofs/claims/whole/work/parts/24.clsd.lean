set_option maxHeartbeats 4000000 in
set_option maxRecDepth 100000 in
theorem cc_X3_move (l : Launch) (E : En) (A : Nat → Prop) (w : Wd) {S : Sx} {D : Ad} (x i y j n : Int32) (hW : Wf S) (hR : Rp E S D w) (hb9 : sNr S < 512 ∧ sNt S < 512 ∧ sNl S < 512) : Ct l yX3_move wsX3_move ({ frames := 3, cells := 0, slots := 0, locals := 66 } : Room) E A w [.ref (aH D), .int x, .int i, .int y, .int j, .int n] (fun r w' => PoC E D (sp_move S x i y j n) r w') 0 0 := by
  refine Met.ofW (cc := cX3_move) (maxL := 9) (ret := (some .int)) (by decide) rfl ?_
  intro pp0 ee0 s m args below meth cc0 s₁ B hml hv
  obtain ⟨rfl, hT, hI, hA⟩ := hv
  have hx := B.exec
  have hb := B.bytes
  have hr := B.returns
  have hts := atoms_spec (ws := wsX3_move) B.pre
  have hown : s.vm.findClass RX3 = some m.cls := findClass_of_methodNamed B.named
  have hlocks := B.notSynchronized
  have in_X3 : ∀ w ∈ wsX30, w ∈ wsX3_move := by decide +kernel
  have hS : va_S A s.heap s.heap [] := va_S.rf
  have hl := lv_entry ([.ref (aH D), .int x, .int i, .int y, .int j, .int n]) (n := 9) (Nat.le_of_ble_eq_true rfl)
  rw [lg_entry_eq]
  generalize (lg_sl ([.ref (aH D), .int x, .int i, .int y, .int j, .int n]) ++ List.replicate (9 - (lg_sl ([.ref (aH D), .int x, .int i, .int y, .int j, .int n])).length) Slot.unset).toArray = ls at hl ⊢
  have hl : lv_has ls 9 [(0, .ref (aH D)), (1, .int x), (2, .int i), (3, .int y), (4, .int j), (5, .int n)] := hl
  refine lv_iload_n hx hb dX3_move_0 rfl (lv_at hl 1 rfl) ?_
  refine ca_S (As := [.int x]) (rest := []) ⟨hx, hb, hml, hown, hts⟩ (cc_X3_isOutside l E A _ x) (va_cwS 1 hts gX3_move_X3_isOutside rfl rfl rfl (by decide +kernel) ⟨(Nat.le_of_ble_eq_true rfl), (Nat.le_of_ble_eq_true rfl)⟩) hT hI hA hS rfl rfl hl.1 (Nat.le_of_ble_eq_true rfl) dX3_move_1 ⟨(Nat.le_of_ble_eq_true rfl), (Nat.le_of_ble_eq_true rfl)⟩ (fun r w_2 H locs hp_1 hI hS => ?_)
  obtain ⟨rfl, ⟨ho_3, rfl⟩ | ⟨ho_3, rfl⟩⟩ := hp_1
  · refine W.eq (g2 := F0 m 4 ls [.int 1]) rfl ?_
    refine lv_if_ne (tgt := 14) hx hb dX3_move_4 (by decide) (fun _ => ?_) (fun c => absurd c (by decide))
    refine lv_ldc (v := -2000000001) hx hb hown (hts (.constant RX3 23 (-2000000001)) (by decide +kernel)) dX3_move_14 ?_
    exact re_i hx hb hr hlocks hT hA hS hI (PoC.of (by
            unfold sp_move
            rw [if_pos (Or.inl ho_3)]) hR rfl) (Nat.le_of_ble_eq_true rfl) (Nat.le_of_ble_eq_true rfl) dX3_move_16
  · refine W.eq (g2 := F0 m 4 ls [.int 0]) rfl ?_
    refine lv_if_ne (tgt := 14) hx hb dX3_move_4 (by decide) (fun c => absurd c (by decide)) (fun _ => ?_)
    refine lv_iload_n hx hb dX3_move_7 rfl (lv_at hl 3 rfl) ?_
    refine ca_S (As := [.int y]) (rest := []) ⟨hx, hb, hml, hown, hts⟩ (cc_X3_isOutside l E A _ y) (va_cwS 1 hts gX3_move_X3_isOutside rfl rfl rfl (by decide +kernel) ⟨(Nat.le_of_ble_eq_true rfl), (Nat.le_of_ble_eq_true rfl)⟩) hT hI hA hS rfl rfl hl.1 (Nat.le_of_ble_eq_true rfl) dX3_move_8 ⟨(Nat.le_of_ble_eq_true rfl), (Nat.le_of_ble_eq_true rfl)⟩ (fun r w_5 H locs hp_4 hI hS => ?_)
    obtain ⟨rfl, ⟨ho_6, rfl⟩ | ⟨ho_6, rfl⟩⟩ := hp_4
    · refine W.eq (g2 := F0 m 11 ls [.int 1]) rfl ?_
      refine lv_if_eq (tgt := 17) hx hb dX3_move_11 (by decide) (fun c => absurd c (by decide)) (fun _ => ?_)
      refine lv_ldc (v := -2000000001) hx hb hown (hts (.constant RX3 23 (-2000000001)) (by decide +kernel)) dX3_move_14 ?_
      exact re_i hx hb hr hlocks hT hA hS hI (PoC.of (by
                unfold sp_move
                rw [if_pos (Or.inr (ho_6))]) hR rfl) (Nat.le_of_ble_eq_true rfl) (Nat.le_of_ble_eq_true rfl) dX3_move_16
    · refine W.eq (g2 := F0 m 11 ls [.int 0]) rfl ?_
      refine lv_if_eq (tgt := 17) hx hb dX3_move_11 (by decide) (fun _ => ?_) (fun c => absurd c (by decide))
      obtain ⟨xj, hxj, rfl⟩ := isP_nat ho_3
      obtain ⟨yj, hyj, rfl⟩ := isP_nat ho_6
      refine lv_aload_n hx hb dX3_move_17 rfl (lv_at hl 0 rfl) ?_
      refine wr_get (ci := 2) (C := RX3) (T := TX3) (N := 2) (v := .ref (aP D)) hx hb hts in_X3 hown hT hI hR.1 rfl 0 (by decide) (hts (.fieldLink RX3 11 "CopyRows" "places" "[LCopyRows$Row;") (by decide +kernel)) rfl dX3_move_18 ?_
      refine lv_iload_n hx hb dX3_move_21 rfl (lv_at hl 1 rfl) ?_
      refine wr_aaldN (t := xj) hx hb hT hI hR.2.1 2 rfl (by omega) (by omega) dX3_move_22 ?_
      rcases hW.pl D xj with ⟨ez7, ep7⟩ | ⟨ez7, hv7, ep7⟩
      · refine W.eq (g2 := F0 m 23 ls [.null]) (by rw [ep7]; rfl) ?_
        refine lv_astoreN (lv' := [(6, .null), (0, .ref (aH D)), (1, .int (nI xj)), (2, .int i), (3, .int (nI yj)), (4, .int j), (5, .int n)]) hx hb dX3_move_23 hl (by decide) rfl (fun ls hl => ?_)
        refine lv_aload_n hx hb dX3_move_25 rfl (lv_at hl 1 rfl) ?_
        refine wr_get (ci := 2) (C := RX3) (T := TX3) (N := 2) (v := .ref (aP D)) hx hb hts in_X3 hown hT hI hR.1 rfl 0 (by decide) (hts (.fieldLink RX3 11 "CopyRows" "places" "[LCopyRows$Row;") (by decide +kernel)) rfl dX3_move_26 ?_
        refine lv_iload_n hx hb dX3_move_29 rfl (lv_at hl 4 rfl) ?_
        refine wr_aaldN (t := yj) hx hb hT hI hR.2.1 2 rfl (by omega) (by omega) dX3_move_30 ?_
        rcases hW.pl D yj with ⟨ez8, ep8⟩ | ⟨ez8, hv8, ep8⟩
        · refine W.eq (g2 := F0 m 31 ls [.null]) (by rw [ep8]; rfl) ?_
          refine lv_astoreN (lv' := [(7, .null), (6, .null), (0, .ref (aH D)), (1, .int (nI xj)), (2, .int i), (3, .int (nI yj)), (4, .int j), (5, .int n)]) hx hb dX3_move_31 hl (by decide) rfl (fun ls hl => ?_)
          refine lv_aloadN hx hb dX3_move_33 (lv_at hl 1 rfl) ?_
          refine lv_ifnullN (tgt := 43) hx hb dX3_move_35 (by decide) ?_
          refine lv_aload_n hx hb dX3_move_43 rfl (lv_at hl 2 rfl) ?_
          refine lv_iconst (v := 1) hx hb dX3_move_44 (by decide) ?_
          refine ca_V (As := [.int 1]) (rest := []) (r0 := (RX3, TX3, 2)) (ci := 2) ⟨hx, hb, hml, hown, hts⟩ (cc_X3_fail l E A _ 1 hR) (cwV 1 hts gX3_move_X3_fail rfl rfl rfl (by decide +kernel) ⟨(Nat.le_of_ble_eq_true rfl), (Nat.le_of_ble_eq_true rfl)⟩) hT hI hA hS rfl hR.1 rfl rfl hl.1 (Nat.le_of_ble_eq_true rfl) dX3_move_45 ⟨(Nat.le_of_ble_eq_true rfl), (Nat.le_of_ble_eq_true rfl)⟩ (fun r w_10 H locs hp_9 hI hS => ?_)
          obtain ⟨rfl, hR⟩ := hp_9
          refine W.eq (g2 := F0 m 48 ls [.int 0]) rfl ?_
          exact re_i hx hb hr hlocks hT hA hS hI (PoC.of (by
                        unfold sp_move
                        try simp only [pv_nI hxj, pv_nI hyj]
                        rw [if_neg ((fun q => q.elim ho_3 ho_6)), if_pos (Or.inl ez7)]) hR rfl) (Nat.le_of_ble_eq_true rfl) (Nat.le_of_ble_eq_true rfl) dX3_move_48
        · refine W.eq (g2 := F0 m 31 ls [.ref (aR D (sPl S yj))]) (by rw [ep8]; rfl) ?_
          refine lv_astore (lv' := [(7, .ref (aR D (sPl S yj))), (6, .null), (0, .ref (aH D)), (1, .int (nI xj)), (2, .int i), (3, .int (nI yj)), (4, .int j), (5, .int n)]) hx hb dX3_move_31 hl (by decide) rfl (fun ls hl => ?_)
          refine lv_aloadN hx hb dX3_move_33 (lv_at hl 1 rfl) ?_
          refine lv_ifnullN (tgt := 43) hx hb dX3_move_35 (by decide) ?_
          refine lv_aload_n hx hb dX3_move_43 rfl (lv_at hl 2 rfl) ?_
          refine lv_iconst (v := 1) hx hb dX3_move_44 (by decide) ?_
          refine ca_V (As := [.int 1]) (rest := []) (r0 := (RX3, TX3, 2)) (ci := 2) ⟨hx, hb, hml, hown, hts⟩ (cc_X3_fail l E A _ 1 hR) (cwV 1 hts gX3_move_X3_fail rfl rfl rfl (by decide +kernel) ⟨(Nat.le_of_ble_eq_true rfl), (Nat.le_of_ble_eq_true rfl)⟩) hT hI hA hS rfl hR.1 rfl rfl hl.1 (Nat.le_of_ble_eq_true rfl) dX3_move_45 ⟨(Nat.le_of_ble_eq_true rfl), (Nat.le_of_ble_eq_true rfl)⟩ (fun r w_12 H locs hp_11 hI hS => ?_)
          obtain ⟨rfl, hR⟩ := hp_11
          refine W.eq (g2 := F0 m 48 ls [.int 0]) rfl ?_
          exact re_i hx hb hr hlocks hT hA hS hI (PoC.of (by
                        unfold sp_move
                        try simp only [pv_nI hxj, pv_nI hyj]
                        rw [if_neg ((fun q => q.elim ho_3 ho_6)), if_pos (Or.inl ez7)]) hR rfl) (Nat.le_of_ble_eq_true rfl) (Nat.le_of_ble_eq_true rfl) dX3_move_48
      · refine W.eq (g2 := F0 m 23 ls [.ref (aR D (sPl S xj))]) (by rw [ep7]; rfl) ?_
        refine lv_astore (lv' := [(6, .ref (aR D (sPl S xj))), (0, .ref (aH D)), (1, .int (nI xj)), (2, .int i), (3, .int (nI yj)), (4, .int j), (5, .int n)]) hx hb dX3_move_23 hl (by decide) rfl (fun ls hl => ?_)
        refine lv_aload_n hx hb dX3_move_25 rfl (lv_at hl 1 rfl) ?_
        refine wr_get (ci := 2) (C := RX3) (T := TX3) (N := 2) (v := .ref (aP D)) hx hb hts in_X3 hown hT hI hR.1 rfl 0 (by decide) (hts (.fieldLink RX3 11 "CopyRows" "places" "[LCopyRows$Row;") (by decide +kernel)) rfl dX3_move_26 ?_
        refine lv_iload_n hx hb dX3_move_29 rfl (lv_at hl 4 rfl) ?_
        refine wr_aaldN (t := yj) hx hb hT hI hR.2.1 2 rfl (by omega) (by omega) dX3_move_30 ?_
        rcases hW.pl D yj with ⟨ez13, ep13⟩ | ⟨ez13, hv13, ep13⟩
        · refine W.eq (g2 := F0 m 31 ls [.null]) (by rw [ep13]; rfl) ?_
          refine lv_astoreN (lv' := [(7, .null), (6, .ref (aR D (sPl S xj))), (0, .ref (aH D)), (1, .int (nI xj)), (2, .int i), (3, .int (nI yj)), (4, .int j), (5, .int n)]) hx hb dX3_move_31 hl (by decide) rfl (fun ls hl => ?_)
          refine lv_aload hx hb dX3_move_33 (lv_at hl 1 rfl) ?_
          refine lv_ifnull hx hb dX3_move_35 ?_
          refine lv_aloadN hx hb dX3_move_38 (lv_at hl 0 rfl) ?_
          refine lv_ifnonnullN hx hb dX3_move_40 ?_
          refine lv_aload_n hx hb dX3_move_43 rfl (lv_at hl 2 rfl) ?_
          refine lv_iconst (v := 1) hx hb dX3_move_44 (by decide) ?_
          refine ca_V (As := [.int 1]) (rest := []) (r0 := (RX3, TX3, 2)) (ci := 2) ⟨hx, hb, hml, hown, hts⟩ (cc_X3_fail l E A _ 1 hR) (cwV 1 hts gX3_move_X3_fail rfl rfl rfl (by decide +kernel) ⟨(Nat.le_of_ble_eq_true rfl), (Nat.le_of_ble_eq_true rfl)⟩) hT hI hA hS rfl hR.1 rfl rfl hl.1 (Nat.le_of_ble_eq_true rfl) dX3_move_45 ⟨(Nat.le_of_ble_eq_true rfl), (Nat.le_of_ble_eq_true rfl)⟩ (fun r w_15 H locs hp_14 hI hS => ?_)
          obtain ⟨rfl, hR⟩ := hp_14
          refine W.eq (g2 := F0 m 48 ls [.int 0]) rfl ?_
          exact re_i hx hb hr hlocks hT hA hS hI (PoC.of (by
                        unfold sp_move
                        try simp only [pv_nI hxj, pv_nI hyj]
                        rw [if_neg ((fun q => q.elim ho_3 ho_6)), if_pos (Or.inr (ez13))]) hR rfl) (Nat.le_of_ble_eq_true rfl) (Nat.le_of_ble_eq_true rfl) dX3_move_48
        · refine W.eq (g2 := F0 m 31 ls [.ref (aR D (sPl S yj))]) (by rw [ep13]; rfl) ?_
          refine lv_astore (lv' := [(7, .ref (aR D (sPl S yj))), (6, .ref (aR D (sPl S xj))), (0, .ref (aH D)), (1, .int (nI xj)), (2, .int i), (3, .int (nI yj)), (4, .int j), (5, .int n)]) hx hb dX3_move_31 hl (by decide) rfl (fun ls hl => ?_)
          refine lv_aload hx hb dX3_move_33 (lv_at hl 1 rfl) ?_
          refine lv_ifnull hx hb dX3_move_35 ?_
          refine lv_aload hx hb dX3_move_38 (lv_at hl 0 rfl) ?_
          refine lv_ifnonnull (tgt := 49) hx hb dX3_move_40 (by decide) ?_
          refine lv_aload hx hb dX3_move_49 (lv_at hl 0 rfl) ?_
          refine lv_aload hx hb dX3_move_51 (lv_at hl 1 rfl) ?_
          refine ca_V (As := [.ref (aR D (sPl S xj))]) (rest := []) (r0 := (RX1, TX1, 4)) (ci := 0) ⟨hx, hb, hml, hown, hts⟩ (cc_X1_mayTakeOf l E A _ (hR.2.2.1 _ hv13).1 (hR.2.2.1 _ hv7).1) (cwV 1 hts gX3_move_X1_mayTakeOf rfl rfl rfl (by decide +kernel) ⟨(Nat.le_of_ble_eq_true rfl), (Nat.le_of_ble_eq_true rfl)⟩) hT hI hA hS rfl (hR.2.2.1 _ hv13).1 rfl rfl hl.1 (Nat.le_of_ble_eq_true rfl) dX3_move_53 ⟨(Nat.le_of_ble_eq_true rfl), (Nat.le_of_ble_eq_true rfl)⟩ (fun r w_17 H locs hp_16 hI hS => ?_)
          obtain ⟨rfl, ⟨hm_18, rfl⟩ | ⟨hm_18, rfl⟩⟩ := hp_16
          · have hm_18 : mayT (kdv S (sPl S yj)) (kdv S (sPl S xj)) := hm_18
            have hru : vR S (sPl S xj) := vO_row hv7 (fun e9 => hm_18.1 (Or.inr e9))
            have hrv : vR S (sPl S yj) := vO_row hv13 (fun e9 => hm_18.1 (Or.inl e9))
            have hlu := hW.ln (Or.inl hru)
            have hlv := hW.ln (Or.inl hrv)
            refine W.eq (g2 := F0 m 56 ls [.int 1]) rfl ?_
            refine lv_if_ne (tgt := 65) hx hb dX3_move_56 (by decide) (fun _ => ?_) (fun c => absurd c (by decide))
            refine lv_aload hx hb dX3_move_65 (lv_at hl 1 rfl) ?_
            refine lv_iload_n hx hb dX3_move_67 rfl (lv_at hl 4 rfl) ?_
            refine lv_iload hx hb dX3_move_68 (lv_at hl 7 rfl) ?_
            refine ca_V (As := [.int i, .int n]) (rest := []) (r0 := (RX1, TX1, 4)) (ci := 0) ⟨hx, hb, hml, hown, hts⟩ (cc_X1_hasRange l E A _ i n (hR.2.2.1 _ hv7).1) (cwV 2 hts gX3_move_X1_hasRange rfl rfl rfl (by decide +kernel) ⟨(Nat.le_of_ble_eq_true rfl), (Nat.le_of_ble_eq_true rfl)⟩) hT hI hA hS rfl (hR.2.2.1 _ hv7).1 rfl rfl hl.1 (Nat.le_of_ble_eq_true rfl) dX3_move_70 ⟨(Nat.le_of_ble_eq_true rfl), (Nat.le_of_ble_eq_true rfl)⟩ (fun r w_20 H locs hp_19 hI hS => ?_)
            obtain ⟨rfl, ⟨hg_21, rfl⟩ | ⟨hg_21, rfl⟩⟩ := hp_19
            · have hg_21 : rg (lnv S (sPl S xj)) i n := rng_yes (hW.ln hv7) hg_21
              refine W.eq (g2 := F0 m 73 ls [.int 1]) rfl ?_
              refine lv_if_eq (tgt := 88) hx hb dX3_move_73 (by decide) (fun c => absurd c (by decide)) (fun _ => ?_)
              refine lv_aload hx hb dX3_move_76 (lv_at hl 0 rfl) ?_
              refine lv_iload hx hb dX3_move_78 (lv_at hl 6 rfl) ?_
              refine lv_iload hx hb dX3_move_80 (lv_at hl 7 rfl) ?_
              refine ca_V (As := [.int j, .int n]) (rest := []) (r0 := (RX1, TX1, 4)) (ci := 0) ⟨hx, hb, hml, hown, hts⟩ (cc_X1_hasRange l E A _ j n (hR.2.2.1 _ hv13).1) (cwV 2 hts gX3_move_X1_hasRange rfl rfl rfl (by decide +kernel) ⟨(Nat.le_of_ble_eq_true rfl), (Nat.le_of_ble_eq_true rfl)⟩) hT hI hA hS rfl (hR.2.2.1 _ hv13).1 rfl rfl hl.1 (Nat.le_of_ble_eq_true rfl) dX3_move_82 ⟨(Nat.le_of_ble_eq_true rfl), (Nat.le_of_ble_eq_true rfl)⟩ (fun r w_23 H locs hp_22 hI hS => ?_)
              obtain ⟨rfl, ⟨hg_24, rfl⟩ | ⟨hg_24, rfl⟩⟩ := hp_22
              · have hg_24 : rg (lnv S (sPl S yj)) j n := rng_yes (hW.ln hv13) hg_24
                refine W.eq (g2 := F0 m 85 ls [.int 1]) rfl ?_
                refine lv_if_ne (tgt := 94) hx hb dX3_move_85 (by decide) (fun _ => ?_) (fun c => absurd c (by decide))
                obtain ⟨ia, nb, hin1, rfl, rfl⟩ := rg_nat hlu hg_21
                obtain ⟨ja, nc, hin2, rfl, he2⟩ := rg_nat hlv hg_24
                obtain rfl : nb = nc := nI_inj (by omega) (by omega) he2
                refine lv_aload hx hb dX3_move_94 (lv_at hl 0 rfl) ?_
                refine lv_aload hx hb dX3_move_96 (lv_at hl 1 rfl) ?_
                refine lv_iload_n hx hb dX3_move_98 rfl (lv_at hl 4 rfl) ?_
                refine lv_iload hx hb dX3_move_99 (lv_at hl 7 rfl) ?_
                refine ca_V (As := [.ref (aR D (sPl S xj)), .int (nI ia), .int (nI nb)]) (rest := []) (r0 := (RX1, TX1, 4)) (ci := 0) ⟨hx, hb, hml, hown, hts⟩ (cR_count l E A _ ia nb hW hR hru hrv hm_18 (by omega)) (cwV 3 hts gX3_move_X1_countTaken rfl rfl rfl (by decide +kernel) ⟨(Nat.le_of_ble_eq_true rfl), (Nat.le_of_ble_eq_true rfl)⟩) hT hI hA hS rfl (hR.2.2.1 _ hv13).1 rfl rfl hl.1 (Nat.le_of_ble_eq_true rfl) dX3_move_101 ⟨(Nat.le_of_ble_eq_true rfl), (Nat.le_of_ble_eq_true rfl)⟩ (fun r w_26 H locs hp_25 hI hS => ?_)
                obtain ⟨rfl, rfl⟩ := hp_25
                have hsp := mvN_spec (S := S) (u := sPl S xj) (v := sPl S yj) (i := ia) (n := nb)
                generalize hmv : mvN S (sPl S xj) (sPl S yj) ia nb = mv at hsp ⊢
                refine W.eq (g2 := F0 m 104 ls [.int (nI mv)]) rfl ?_
                refine lv_istore (lv' := [(8, .int (nI mv)), (7, .ref (aR D (sPl S yj))), (6, .ref (aR D (sPl S xj))), (0, .ref (aH D)), (1, .int (nI xj)), (2, .int (nI ia)), (3, .int (nI yj)), (4, .int (nI ja)), (5, .int (nI nb))]) hx hb dX3_move_104 hl (by decide) rfl (fun ls hl => ?_)
                refine lv_aload hx hb dX3_move_106 (lv_at hl 1 rfl) ?_
                refine lv_aload hx hb dX3_move_108 (lv_at hl 2 rfl) ?_
                refine lv_iload_n hx hb dX3_move_110 rfl (lv_at hl 5 rfl) ?_
                refine lv_iload hx hb dX3_move_111 (lv_at hl 7 rfl) ?_
                refine lv_iload hx hb dX3_move_113 (lv_at hl 0 rfl) ?_
                refine ca_V (As := [.ref (aR D (sPl S xj)), .int (nI ia), .int (nI ja), .int (nI mv)]) (rest := []) (r0 := (RX1, TX1, 4)) (ci := 0) ⟨hx, hb, hml, hown, hts⟩ (cR_take l E A _ ia ja mv hW hR hru hrv hm_18 (by omega) (by omega) (fun h9 => (hsp.2 h9).1)) (cwV 4 hts gX3_move_X1_take rfl rfl rfl (by decide +kernel) ⟨(Nat.le_of_ble_eq_true rfl), (Nat.le_of_ble_eq_true rfl)⟩) hT hI hA hS rfl (hR.2.2.1 _ hv13).1 rfl rfl hl.1 (Nat.le_of_ble_eq_true rfl) dX3_move_115 ⟨(Nat.le_of_ble_eq_true rfl), (Nat.le_of_ble_eq_true rfl)⟩ (fun r w_28 H locs hp_27 hI hS => ?_)
                obtain ⟨rfl, hR⟩ := hp_27
                refine W.eq (g2 := F0 m 118 ls []) rfl ?_
                refine lv_aload_n hx hb dX3_move_118 rfl (lv_at hl 3 rfl) ?_
                refine lv_iload hx hb dX3_move_119 (lv_at hl 0 rfl) ?_
                refine lv_iload hx hb dX3_move_121 (lv_at hl 8 rfl) ?_
                refine lv_icmp_ge (tgt := 130) hx hb dX3_move_123 (by decide) (fun c_29 => ?_) (fun c_29 => ?_)
                · have c_29 : nb ≤ mv := (nI_leI (a := nb) (b := mv) (by omega) (by omega)).mp c_29
                  refine lv_iconst (v := 0) hx hb dX3_move_130 (by decide) ?_
                  refine wr_put (ci := 2) (C := RX3) (T := TX3) (N := 2) (v := .int 0) (ty := .int) hx hb hts in_X3 tyX3 tyX3_ok nmX3 hown hT hI hS hR.1 rfl 1 (by decide) (hts (.fieldLink RX3 15 "CopyRows" "code" "I") (by decide +kernel)) rfl (by decide +kernel) rfl rfl (Nat.le_of_ble_eq_true rfl) dX3_move_131 (fun H locs hI hS => ?_)
                  have hR := hR.cod (0)
                  refine lv_iload hx hb dX3_move_134 (lv_at hl 0 rfl) ?_
                  exact re_i hx hb hr hlocks hT hA hS hI (PoC.of (by
                                        unfold sp_move
                                        try simp only [pv_nI hxj, pv_nI hyj, ix_nI (show ia < 2 ^ 31 by omega), ix_nI (show nb < 2 ^ 31 by omega), ix_nI (show ja < 2 ^ 31 by omega)]
                                        rw [if_neg ((fun q => q.elim ho_3 ho_6)), if_neg ((fun q => q.elim ez7 ez13)), if_neg (not_not_intro hm_18), if_neg (fun q => q.elim (not_not_intro hg_21) (not_not_intro hg_24))]
                                        rw [hmv]
                                        rw [if_neg (by omega)]) hR rfl) (Nat.le_of_ble_eq_true rfl) (Nat.le_of_ble_eq_true rfl) dX3_move_136
                · have c_29 : ¬ nb ≤ mv := fun q => c_29 ((nI_leI (a := nb) (b := mv) (by omega) (by omega)).mpr q)
                  refine lv_iconst (v := 2) hx hb dX3_move_126 (by decide) ?_
                  refine lv_goto (tgt := 131) hx hb dX3_move_127 (by decide) ?_
                  refine wr_put (ci := 2) (C := RX3) (T := TX3) (N := 2) (v := .int 2) (ty := .int) hx hb hts in_X3 tyX3 tyX3_ok nmX3 hown hT hI hS hR.1 rfl 1 (by decide) (hts (.fieldLink RX3 15 "CopyRows" "code" "I") (by decide +kernel)) rfl (by decide +kernel) rfl rfl (Nat.le_of_ble_eq_true rfl) dX3_move_131 (fun H locs hI hS => ?_)
                  have hR := hR.cod (2)
                  refine lv_iload hx hb dX3_move_134 (lv_at hl 0 rfl) ?_
                  exact re_i hx hb hr hlocks hT hA hS hI (PoC.of (by
                                        unfold sp_move
                                        try simp only [pv_nI hxj, pv_nI hyj, ix_nI (show ia < 2 ^ 31 by omega), ix_nI (show nb < 2 ^ 31 by omega), ix_nI (show ja < 2 ^ 31 by omega)]
                                        rw [if_neg ((fun q => q.elim ho_3 ho_6)), if_neg ((fun q => q.elim ez7 ez13)), if_neg (not_not_intro hm_18), if_neg (fun q => q.elim (not_not_intro hg_21) (not_not_intro hg_24))]
                                        rw [hmv]
                                        rw [if_pos (by omega)]) hR rfl) (Nat.le_of_ble_eq_true rfl) (Nat.le_of_ble_eq_true rfl) dX3_move_136
              · have hg_24 : ¬ rg (lnv S (sPl S yj)) j n := rng_no (hW.ln hv13) hg_24
                refine W.eq (g2 := F0 m 85 ls [.int 0]) rfl ?_
                refine lv_if_ne (tgt := 94) hx hb dX3_move_85 (by decide) (fun c => absurd c (by decide)) (fun _ => ?_)
                refine lv_aload_n hx hb dX3_move_88 rfl (lv_at hl 2 rfl) ?_
                refine lv_iconst (v := 3) hx hb dX3_move_89 (by decide) ?_
                refine ca_V (As := [.int 3]) (rest := []) (r0 := (RX3, TX3, 2)) (ci := 2) ⟨hx, hb, hml, hown, hts⟩ (cc_X3_fail l E A _ 3 hR) (cwV 1 hts gX3_move_X3_fail rfl rfl rfl (by decide +kernel) ⟨(Nat.le_of_ble_eq_true rfl), (Nat.le_of_ble_eq_true rfl)⟩) hT hI hA hS rfl hR.1 rfl rfl hl.1 (Nat.le_of_ble_eq_true rfl) dX3_move_90 ⟨(Nat.le_of_ble_eq_true rfl), (Nat.le_of_ble_eq_true rfl)⟩ (fun r w_33 H locs hp_32 hI hS => ?_)
                obtain ⟨rfl, hR⟩ := hp_32
                refine W.eq (g2 := F0 m 93 ls [.int 0]) rfl ?_
                exact re_i hx hb hr hlocks hT hA hS hI (PoC.of (by
                                    unfold sp_move
                                    try simp only [pv_nI hxj, pv_nI hyj]
                                    rw [if_neg ((fun q => q.elim ho_3 ho_6)), if_neg ((fun q => q.elim ez7 ez13)), if_neg (not_not_intro hm_18), if_pos (Or.inr hg_24)]) hR rfl) (Nat.le_of_ble_eq_true rfl) (Nat.le_of_ble_eq_true rfl) dX3_move_93
            · have hg_21 : ¬ rg (lnv S (sPl S xj)) i n := rng_no (hW.ln hv7) hg_21
              refine W.eq (g2 := F0 m 73 ls [.int 0]) rfl ?_
              refine lv_if_eq (tgt := 88) hx hb dX3_move_73 (by decide) (fun _ => ?_) (fun c => absurd c (by decide))
              refine lv_aload_n hx hb dX3_move_88 rfl (lv_at hl 2 rfl) ?_
              refine lv_iconst (v := 3) hx hb dX3_move_89 (by decide) ?_
              refine ca_V (As := [.int 3]) (rest := []) (r0 := (RX3, TX3, 2)) (ci := 2) ⟨hx, hb, hml, hown, hts⟩ (cc_X3_fail l E A _ 3 hR) (cwV 1 hts gX3_move_X3_fail rfl rfl rfl (by decide +kernel) ⟨(Nat.le_of_ble_eq_true rfl), (Nat.le_of_ble_eq_true rfl)⟩) hT hI hA hS rfl hR.1 rfl rfl hl.1 (Nat.le_of_ble_eq_true rfl) dX3_move_90 ⟨(Nat.le_of_ble_eq_true rfl), (Nat.le_of_ble_eq_true rfl)⟩ (fun r w_35 H locs hp_34 hI hS => ?_)
              obtain ⟨rfl, hR⟩ := hp_34
              refine W.eq (g2 := F0 m 93 ls [.int 0]) rfl ?_
              exact re_i hx hb hr hlocks hT hA hS hI (PoC.of (by
                                unfold sp_move
                                try simp only [pv_nI hxj, pv_nI hyj]
                                rw [if_neg ((fun q => q.elim ho_3 ho_6)), if_neg ((fun q => q.elim ez7 ez13)), if_neg (not_not_intro hm_18), if_pos (Or.inl hg_21)]) hR rfl) (Nat.le_of_ble_eq_true rfl) (Nat.le_of_ble_eq_true rfl) dX3_move_93
          · have hm_18 : ¬ mayT (kdv S (sPl S yj)) (kdv S (sPl S xj)) := hm_18
            refine W.eq (g2 := F0 m 56 ls [.int 0]) rfl ?_
            refine lv_if_ne (tgt := 65) hx hb dX3_move_56 (by decide) (fun c => absurd c (by decide)) (fun _ => ?_)
            refine lv_aload_n hx hb dX3_move_59 rfl (lv_at hl 2 rfl) ?_
            refine lv_iconst (v := 2) hx hb dX3_move_60 (by decide) ?_
            refine ca_V (As := [.int 2]) (rest := []) (r0 := (RX3, TX3, 2)) (ci := 2) ⟨hx, hb, hml, hown, hts⟩ (cc_X3_fail l E A _ 2 hR) (cwV 1 hts gX3_move_X3_fail rfl rfl rfl (by decide +kernel) ⟨(Nat.le_of_ble_eq_true rfl), (Nat.le_of_ble_eq_true rfl)⟩) hT hI hA hS rfl hR.1 rfl rfl hl.1 (Nat.le_of_ble_eq_true rfl) dX3_move_61 ⟨(Nat.le_of_ble_eq_true rfl), (Nat.le_of_ble_eq_true rfl)⟩ (fun r w_37 H locs hp_36 hI hS => ?_)
            obtain ⟨rfl, hR⟩ := hp_36
            refine W.eq (g2 := F0 m 64 ls [.int 0]) rfl ?_
            exact re_i hx hb hr hlocks hT hA hS hI (PoC.of (by
                            unfold sp_move
                            try simp only [pv_nI hxj, pv_nI hyj]
                            rw [if_neg ((fun q => q.elim ho_3 ho_6)), if_neg ((fun q => q.elim ez7 ez13)), if_pos (hm_18)]) hR rfl) (Nat.le_of_ble_eq_true rfl) (Nat.le_of_ble_eq_true rfl) dX3_move_64

set_option maxHeartbeats 4000000 in
set_option maxRecDepth 100000 in
theorem cc_X3_moveOne (l : Launch) (E : En) (A : Nat → Prop) (w : Wd) {S : Sx} {D : Ad} {u v : Int32} (i j : Int32) (hW : Wf S) (hR : Rp E S D w) (hru : vR S u) (hrv : vR S v) (hm : mayT (kdv S v) (kdv S u)) : Ct l yX3_moveOne wsX3_moveOne ({ frames := 3, cells := 0, slots := 0, locals := 66 } : Room) E A w [.ref (aR D u), .int i, .ref (aR D v), .int j] (fun r w' => ((oI (lnv S u) i ∨ oI (lnv S v) j) ∧ r = some (.int 3) ∧ Rp E S D w') ∨ (¬ (oI (lnv S u) i ∨ oI (lnv S v) j) ∧ ¬ (isN (kdv S v) ∨ fitS S (kdv S u) (itv S u (ix i)) (kdv S v)) ∧ r = some (.int 2) ∧ Rp E S D w') ∨ (¬ (oI (lnv S u) i ∨ oI (lnv S v) j) ∧ (isN (kdv S v) ∨ fitS S (kdv S u) (itv S u (ix i)) (kdv S v)) ∧ r = some (.int 0) ∧ Rp E (uRow S (ix v) (upd (itv S v) (ix j) (itv S u (ix i)))) D w')) 0 0 := by
  refine Met.ofW (cc := cX3_moveOne) (maxL := 4) (ret := (some .int)) (by decide) rfl ?_
  intro pp0 ee0 s m args below meth cc0 s₁ B hml hv
  obtain ⟨rfl, hT, hI, hA⟩ := hv
  have hx := B.exec
  have hb := B.bytes
  have hr := B.returns
  have hts := atoms_spec (ws := wsX3_moveOne) B.pre
  have hown : s.vm.findClass RX3 = some m.cls := findClass_of_methodNamed B.named
  have hlocks := B.notSynchronized
  have hS : va_S A s.heap s.heap [] := va_S.rf
  have hl := lv_entry ([.ref (aR D u), .int i, .ref (aR D v), .int j]) (n := 4) (Nat.le_of_ble_eq_true rfl)
  rw [lg_entry_eq]
  generalize (lg_sl ([.ref (aR D u), .int i, .ref (aR D v), .int j]) ++ List.replicate (4 - (lg_sl ([.ref (aR D u), .int i, .ref (aR D v), .int j])).length) Slot.unset).toArray = ls at hl ⊢
  have hl : lv_has ls 4 [(0, .ref (aR D u)), (1, .int i), (2, .ref (aR D v)), (3, .int j)] := hl
  have hlu := hW.ln (Or.inl hru)
  have hlv := hW.ln (Or.inl hrv)
  refine lv_aload_n hx hb dX3_moveOne_0 rfl (lv_at hl 0 rfl) ?_
  refine lv_iload_n hx hb dX3_moveOne_1 rfl (lv_at hl 1 rfl) ?_
  refine ca_V (As := [.int i]) (rest := []) (r0 := (RX1, TX1, 4)) (ci := 0) ⟨hx, hb, hml, hown, hts⟩ (cc_X1_has l E A _ i (hR.2.2.1 _ (Or.inl hru)).1) (cwV 1 hts gX3_moveOne_X1_has rfl rfl rfl (by decide +kernel) ⟨(Nat.le_of_ble_eq_true rfl), (Nat.le_of_ble_eq_true rfl)⟩) hT hI hA hS rfl (hR.2.2.1 _ (Or.inl hru)).1 rfl rfl hl.1 (Nat.le_of_ble_eq_true rfl) dX3_moveOne_2 ⟨(Nat.le_of_ble_eq_true rfl), (Nat.le_of_ble_eq_true rfl)⟩ (fun r w_2 H locs hp_1 hI hS => ?_)
  obtain ⟨rfl, ⟨hi_3, rfl⟩ | ⟨hi_3, rfl⟩⟩ := hp_1
  · have hi_3 : ¬ oI (lnv S (u)) i := has_yes hi_3
    refine W.eq (g2 := F0 m 5 ls [.int 1]) rfl ?_
    refine lv_if_eq (tgt := 16) hx hb dX3_moveOne_5 (by decide) (fun c => absurd c (by decide)) (fun _ => ?_)
    refine lv_aload_n hx hb dX3_moveOne_8 rfl (lv_at hl 2 rfl) ?_
    refine lv_iload_n hx hb dX3_moveOne_9 rfl (lv_at hl 3 rfl) ?_
    refine ca_V (As := [.int j]) (rest := []) (r0 := (RX1, TX1, 4)) (ci := 0) ⟨hx, hb, hml, hown, hts⟩ (cc_X1_has l E A _ j (hR.2.2.1 _ (Or.inl hrv)).1) (cwV 1 hts gX3_moveOne_X1_has rfl rfl rfl (by decide +kernel) ⟨(Nat.le_of_ble_eq_true rfl), (Nat.le_of_ble_eq_true rfl)⟩) hT hI hA hS rfl (hR.2.2.1 _ (Or.inl hrv)).1 rfl rfl hl.1 (Nat.le_of_ble_eq_true rfl) dX3_moveOne_10 ⟨(Nat.le_of_ble_eq_true rfl), (Nat.le_of_ble_eq_true rfl)⟩ (fun r w_5 H locs hp_4 hI hS => ?_)
    obtain ⟨rfl, ⟨hi_6, rfl⟩ | ⟨hi_6, rfl⟩⟩ := hp_4
    · have hi_6 : ¬ oI (lnv S (v)) j := has_yes hi_6
      refine W.eq (g2 := F0 m 13 ls [.int 1]) rfl ?_
      refine lv_if_ne (tgt := 18) hx hb dX3_moveOne_13 (by decide) (fun _ => ?_) (fun c => absurd c (by decide))
      obtain ⟨ij, hij, rfl⟩ := oI_nat (hW.ln (Or.inl hru)) hi_3
      obtain ⟨jj, hjj, rfl⟩ := oI_nat (hW.ln (Or.inl hrv)) hi_6
      refine lv_aload_n hx hb dX3_moveOne_18 rfl (lv_at hl 2 rfl) ?_
      refine lv_aload_n hx hb dX3_moveOne_19 rfl (lv_at hl 0 rfl) ?_
      refine lv_iload_n hx hb dX3_moveOne_20 rfl (lv_at hl 1 rfl) ?_
      refine lv_iconst (v := 1) hx hb dX3_moveOne_21 (by decide) ?_
      refine ca_V (As := [.ref (aR D u), .int (nI ij), .int 1]) (rest := []) (r0 := (RX1, TX1, 4)) (ci := 0) ⟨hx, hb, hml, hown, hts⟩ (cR_count l E A _ ij 1 hW hR hru hrv hm (by omega)) (cwV 3 hts gX3_moveOne_X1_countTaken rfl rfl rfl (by decide +kernel) ⟨(Nat.le_of_ble_eq_true rfl), (Nat.le_of_ble_eq_true rfl)⟩) hT hI hA hS rfl (hR.2.2.1 _ (Or.inl hrv)).1 rfl rfl hl.1 (Nat.le_of_ble_eq_true rfl) dX3_moveOne_22 ⟨(Nat.le_of_ble_eq_true rfl), (Nat.le_of_ble_eq_true rfl)⟩ (fun r w_8 H locs hp_7 hI hS => ?_)
      obtain ⟨rfl, rfl⟩ := hp_7
      have hsp := mvN_spec (S := S) (u := u) (v := v) (i := ij) (n := 1)
      generalize hmv : mvN S (u) (v) ij 1 = mv at hsp ⊢
      refine W.eq (g2 := F0 m 25 ls [.int (nI mv)]) rfl ?_
      refine lv_iconst (v := 1) hx hb dX3_moveOne_25 (by decide) ?_
      refine lv_icmp_ge (tgt := 31) hx hb dX3_moveOne_26 (by decide) (fun c_9 => ?_) (fun c_9 => ?_)
      · have c_9 : 1 ≤ mv := (nI_leI (a := 1) (b := mv) (by omega) (by omega)).mp c_9
        refine lv_aload_n hx hb dX3_moveOne_31 rfl (lv_at hl 2 rfl) ?_
        refine lv_aload_n hx hb dX3_moveOne_32 rfl (lv_at hl 0 rfl) ?_
        refine lv_iload_n hx hb dX3_moveOne_33 rfl (lv_at hl 1 rfl) ?_
        refine lv_iload_n hx hb dX3_moveOne_34 rfl (lv_at hl 3 rfl) ?_
        refine lv_iconst (v := 1) hx hb dX3_moveOne_35 (by decide) ?_
        refine ca_V (As := [.ref (aR D u), .int (nI ij), .int (nI jj), .int 1]) (rest := []) (r0 := (RX1, TX1, 4)) (ci := 0) ⟨hx, hb, hml, hown, hts⟩ (cR_take l E A _ ij jj 1 hW hR hru hrv hm (by omega) (by omega) (fun h9 k9 hk9 => (hsp.2 h9).1 k9 (by omega))) (cwV 4 hts gX3_moveOne_X1_take rfl rfl rfl (by decide +kernel) ⟨(Nat.le_of_ble_eq_true rfl), (Nat.le_of_ble_eq_true rfl)⟩) hT hI hA hS rfl (hR.2.2.1 _ (Or.inl hrv)).1 rfl rfl hl.1 (Nat.le_of_ble_eq_true rfl) dX3_moveOne_36 ⟨(Nat.le_of_ble_eq_true rfl), (Nat.le_of_ble_eq_true rfl)⟩ (fun r w_11 H locs hp_10 hI hS => ?_)
        obtain ⟨rfl, hR⟩ := hp_10
        refine W.eq (g2 := F0 m 39 ls []) rfl ?_
        refine lv_iconst (v := 0) hx hb dX3_moveOne_39 (by decide) ?_
        exact re_i hx hb hr hlocks hT hA hS hI (by
                    refine Or.inr (Or.inr ⟨(fun q => q.elim hi_3 hi_6), ?_, rfl, ?_⟩)
                    · rw [ix_nI (show ij < 2 ^ 31 by omega)]; exact mvN_one.mp (by rw [hmv]; exact c_9)
                    · rw [ix_nI (show ij < 2 ^ 31 by omega), ix_nI (show jj < 2 ^ 31 by omega), ← cpy_one]; exact hR) (Nat.le_of_ble_eq_true rfl) (Nat.le_of_ble_eq_true rfl) dX3_moveOne_40
      · have c_9 : ¬ 1 ≤ mv := fun q => c_9 ((nI_leI (a := 1) (b := mv) (by omega) (by omega)).mpr q)
        refine lv_iconst (v := 2) hx hb dX3_moveOne_29 (by decide) ?_
        exact re_i hx hb hr hlocks hT hA hS hI (Or.inr (Or.inl ⟨(fun q => q.elim hi_3 hi_6), fun q => c_9 (by rw [← hmv]; exact mvN_one.mpr (by rw [ix_nI (by omega)] at q; exact q)), rfl, hR⟩)) (Nat.le_of_ble_eq_true rfl) (Nat.le_of_ble_eq_true rfl) dX3_moveOne_30
    · have hi_6 : oI (lnv S (v)) j := has_no hi_6
      refine W.eq (g2 := F0 m 13 ls [.int 0]) rfl ?_
      refine lv_if_ne (tgt := 18) hx hb dX3_moveOne_13 (by decide) (fun c => absurd c (by decide)) (fun _ => ?_)
      refine lv_iconst (v := 3) hx hb dX3_moveOne_16 (by decide) ?_
      exact re_i hx hb hr hlocks hT hA hS hI (Or.inl ⟨Or.inr hi_6, rfl, hR⟩) (Nat.le_of_ble_eq_true rfl) (Nat.le_of_ble_eq_true rfl) dX3_moveOne_17
  · have hi_3 : oI (lnv S (u)) i := has_no hi_3
    refine W.eq (g2 := F0 m 5 ls [.int 0]) rfl ?_
    refine lv_if_eq (tgt := 16) hx hb dX3_moveOne_5 (by decide) (fun _ => ?_) (fun c => absurd c (by decide))
    refine lv_iconst (v := 3) hx hb dX3_moveOne_16 (by decide) ?_
    exact re_i hx hb hr hlocks hT hA hS hI (Or.inl ⟨Or.inl hi_3, rfl, hR⟩) (Nat.le_of_ble_eq_true rfl) (Nat.le_of_ble_eq_true rfl) dX3_moveOne_17

set_option maxHeartbeats 4000000 in
set_option maxRecDepth 100000 in
theorem cc_X3_loop (l : Launch) (E : En) (A : Nat → Prop) (w : Wd) {S : Sx} {D : Ad} (x i y j n : Int32) (hW : Wf S) (hR : Rp E S D w) (hb9 : sNr S < 512 ∧ sNt S < 512 ∧ sNl S < 512) : Ct l yX3_loop wsX3_loop ({ frames := 4, cells := 0, slots := 0, locals := 89 } : Room) E A w [.ref (aH D), .int x, .int i, .int y, .int j, .int n] (fun r w' => PoC E D (sp_loop S x i y j n) r w') 0 0 := by
  refine Met.ofW (cc := cX3_loop) (maxL := 9) (ret := (some .int)) (by decide) rfl ?_
  intro pp0 ee0 s m args below meth cc0 s₁ B hml hv
  obtain ⟨rfl, hT, hI, hA⟩ := hv
  have hx := B.exec
  have hb := B.bytes
  have hr := B.returns
  have hts := atoms_spec (ws := wsX3_loop) B.pre
  have hown : s.vm.findClass RX3 = some m.cls := findClass_of_methodNamed B.named
  have hlocks := B.notSynchronized
  have in_X3 : ∀ w ∈ wsX30, w ∈ wsX3_loop := by decide +kernel
  have hS : va_S A s.heap s.heap [] := va_S.rf
  have hl := lv_entry ([.ref (aH D), .int x, .int i, .int y, .int j, .int n]) (n := 9) (Nat.le_of_ble_eq_true rfl)
  rw [lg_entry_eq]
  generalize (lg_sl ([.ref (aH D), .int x, .int i, .int y, .int j, .int n]) ++ List.replicate (9 - (lg_sl ([.ref (aH D), .int x, .int i, .int y, .int j, .int n])).length) Slot.unset).toArray = ls at hl ⊢
  have hl : lv_has ls 9 [(0, .ref (aH D)), (1, .int x), (2, .int i), (3, .int y), (4, .int j), (5, .int n)] := hl
  refine lv_iload_n hx hb dX3_loop_0 rfl (lv_at hl 1 rfl) ?_
  refine ca_S (As := [.int x]) (rest := []) ⟨hx, hb, hml, hown, hts⟩ (cc_X3_isOutside l E A _ x) (va_cwS 1 hts gX3_loop_X3_isOutside rfl rfl rfl (by decide +kernel) ⟨(Nat.le_of_ble_eq_true rfl), (Nat.le_of_ble_eq_true rfl)⟩) hT hI hA hS rfl rfl hl.1 (Nat.le_of_ble_eq_true rfl) dX3_loop_1 ⟨(Nat.le_of_ble_eq_true rfl), (Nat.le_of_ble_eq_true rfl)⟩ (fun r w_2 H locs hp_1 hI hS => ?_)
  obtain ⟨rfl, ⟨ho_3, rfl⟩ | ⟨ho_3, rfl⟩⟩ := hp_1
  · refine W.eq (g2 := F0 m 4 ls [.int 1]) rfl ?_
    refine lv_if_ne (tgt := 14) hx hb dX3_loop_4 (by decide) (fun _ => ?_) (fun c => absurd c (by decide))
    refine lv_ldc (v := -2000000001) hx hb hown (hts (.constant RX3 23 (-2000000001)) (by decide +kernel)) dX3_loop_14 ?_
    exact re_i hx hb hr hlocks hT hA hS hI (PoC.of (by
            unfold sp_loop
            rw [if_pos (Or.inl ho_3)]) hR rfl) (Nat.le_of_ble_eq_true rfl) (Nat.le_of_ble_eq_true rfl) dX3_loop_16
  · refine W.eq (g2 := F0 m 4 ls [.int 0]) rfl ?_
    refine lv_if_ne (tgt := 14) hx hb dX3_loop_4 (by decide) (fun c => absurd c (by decide)) (fun _ => ?_)
    refine lv_iload_n hx hb dX3_loop_7 rfl (lv_at hl 3 rfl) ?_
    refine ca_S (As := [.int y]) (rest := []) ⟨hx, hb, hml, hown, hts⟩ (cc_X3_isOutside l E A _ y) (va_cwS 1 hts gX3_loop_X3_isOutside rfl rfl rfl (by decide +kernel) ⟨(Nat.le_of_ble_eq_true rfl), (Nat.le_of_ble_eq_true rfl)⟩) hT hI hA hS rfl rfl hl.1 (Nat.le_of_ble_eq_true rfl) dX3_loop_8 ⟨(Nat.le_of_ble_eq_true rfl), (Nat.le_of_ble_eq_true rfl)⟩ (fun r w_5 H locs hp_4 hI hS => ?_)
    obtain ⟨rfl, ⟨ho_6, rfl⟩ | ⟨ho_6, rfl⟩⟩ := hp_4
    · refine W.eq (g2 := F0 m 11 ls [.int 1]) rfl ?_
      refine lv_if_eq (tgt := 17) hx hb dX3_loop_11 (by decide) (fun c => absurd c (by decide)) (fun _ => ?_)
      refine lv_ldc (v := -2000000001) hx hb hown (hts (.constant RX3 23 (-2000000001)) (by decide +kernel)) dX3_loop_14 ?_
      exact re_i hx hb hr hlocks hT hA hS hI (PoC.of (by
                unfold sp_loop
                rw [if_pos (Or.inr (ho_6))]) hR rfl) (Nat.le_of_ble_eq_true rfl) (Nat.le_of_ble_eq_true rfl) dX3_loop_16
    · refine W.eq (g2 := F0 m 11 ls [.int 0]) rfl ?_
      refine lv_if_eq (tgt := 17) hx hb dX3_loop_11 (by decide) (fun _ => ?_) (fun c => absurd c (by decide))
      obtain ⟨xj, hxj, rfl⟩ := isP_nat ho_3
      obtain ⟨yj, hyj, rfl⟩ := isP_nat ho_6
      refine lv_aload_n hx hb dX3_loop_17 rfl (lv_at hl 0 rfl) ?_
      refine wr_get (ci := 2) (C := RX3) (T := TX3) (N := 2) (v := .ref (aP D)) hx hb hts in_X3 hown hT hI hR.1 rfl 0 (by decide) (hts (.fieldLink RX3 11 "CopyRows" "places" "[LCopyRows$Row;") (by decide +kernel)) rfl dX3_loop_18 ?_
      refine lv_iload_n hx hb dX3_loop_21 rfl (lv_at hl 1 rfl) ?_
      refine wr_aaldN (t := xj) hx hb hT hI hR.2.1 2 rfl (by omega) (by omega) dX3_loop_22 ?_
      rcases hW.pl D xj with ⟨ez7, ep7⟩ | ⟨ez7, hv7, ep7⟩
      · refine W.eq (g2 := F0 m 23 ls [.null]) (by rw [ep7]; rfl) ?_
        refine lv_astoreN (lv' := [(6, .null), (0, .ref (aH D)), (1, .int (nI xj)), (2, .int i), (3, .int (nI yj)), (4, .int j), (5, .int n)]) hx hb dX3_loop_23 hl (by decide) rfl (fun ls hl => ?_)
        refine lv_aload_n hx hb dX3_loop_25 rfl (lv_at hl 1 rfl) ?_
        refine wr_get (ci := 2) (C := RX3) (T := TX3) (N := 2) (v := .ref (aP D)) hx hb hts in_X3 hown hT hI hR.1 rfl 0 (by decide) (hts (.fieldLink RX3 11 "CopyRows" "places" "[LCopyRows$Row;") (by decide +kernel)) rfl dX3_loop_26 ?_
        refine lv_iload_n hx hb dX3_loop_29 rfl (lv_at hl 4 rfl) ?_
        refine wr_aaldN (t := yj) hx hb hT hI hR.2.1 2 rfl (by omega) (by omega) dX3_loop_30 ?_
        rcases hW.pl D yj with ⟨ez8, ep8⟩ | ⟨ez8, hv8, ep8⟩
        · refine W.eq (g2 := F0 m 31 ls [.null]) (by rw [ep8]; rfl) ?_
          refine lv_astoreN (lv' := [(7, .null), (6, .null), (0, .ref (aH D)), (1, .int (nI xj)), (2, .int i), (3, .int (nI yj)), (4, .int j), (5, .int n)]) hx hb dX3_loop_31 hl (by decide) rfl (fun ls hl => ?_)
          refine lv_aloadN hx hb dX3_loop_33 (lv_at hl 1 rfl) ?_
          refine lv_ifnullN (tgt := 43) hx hb dX3_loop_35 (by decide) ?_
          refine lv_aload_n hx hb dX3_loop_43 rfl (lv_at hl 2 rfl) ?_
          refine lv_iconst (v := 1) hx hb dX3_loop_44 (by decide) ?_
          refine ca_V (As := [.int 1]) (rest := []) (r0 := (RX3, TX3, 2)) (ci := 2) ⟨hx, hb, hml, hown, hts⟩ (cc_X3_fail l E A _ 1 hR) (cwV 1 hts gX3_loop_X3_fail rfl rfl rfl (by decide +kernel) ⟨(Nat.le_of_ble_eq_true rfl), (Nat.le_of_ble_eq_true rfl)⟩) hT hI hA hS rfl hR.1 rfl rfl hl.1 (Nat.le_of_ble_eq_true rfl) dX3_loop_45 ⟨(Nat.le_of_ble_eq_true rfl), (Nat.le_of_ble_eq_true rfl)⟩ (fun r w_10 H locs hp_9 hI hS => ?_)
          obtain ⟨rfl, hR⟩ := hp_9
          refine W.eq (g2 := F0 m 48 ls [.int 0]) rfl ?_
          exact re_i hx hb hr hlocks hT hA hS hI (PoC.of (by
                        unfold sp_loop
                        try simp only [pv_nI hxj, pv_nI hyj]
                        rw [if_neg ((fun q => q.elim ho_3 ho_6)), if_pos (Or.inl ez7)]) hR rfl) (Nat.le_of_ble_eq_true rfl) (Nat.le_of_ble_eq_true rfl) dX3_loop_48
        · refine W.eq (g2 := F0 m 31 ls [.ref (aR D (sPl S yj))]) (by rw [ep8]; rfl) ?_
          refine lv_astore (lv' := [(7, .ref (aR D (sPl S yj))), (6, .null), (0, .ref (aH D)), (1, .int (nI xj)), (2, .int i), (3, .int (nI yj)), (4, .int j), (5, .int n)]) hx hb dX3_loop_31 hl (by decide) rfl (fun ls hl => ?_)
          refine lv_aloadN hx hb dX3_loop_33 (lv_at hl 1 rfl) ?_
          refine lv_ifnullN (tgt := 43) hx hb dX3_loop_35 (by decide) ?_
          refine lv_aload_n hx hb dX3_loop_43 rfl (lv_at hl 2 rfl) ?_
          refine lv_iconst (v := 1) hx hb dX3_loop_44 (by decide) ?_
          refine ca_V (As := [.int 1]) (rest := []) (r0 := (RX3, TX3, 2)) (ci := 2) ⟨hx, hb, hml, hown, hts⟩ (cc_X3_fail l E A _ 1 hR) (cwV 1 hts gX3_loop_X3_fail rfl rfl rfl (by decide +kernel) ⟨(Nat.le_of_ble_eq_true rfl), (Nat.le_of_ble_eq_true rfl)⟩) hT hI hA hS rfl hR.1 rfl rfl hl.1 (Nat.le_of_ble_eq_true rfl) dX3_loop_45 ⟨(Nat.le_of_ble_eq_true rfl), (Nat.le_of_ble_eq_true rfl)⟩ (fun r w_12 H locs hp_11 hI hS => ?_)
          obtain ⟨rfl, hR⟩ := hp_11
          refine W.eq (g2 := F0 m 48 ls [.int 0]) rfl ?_
          exact re_i hx hb hr hlocks hT hA hS hI (PoC.of (by
                        unfold sp_loop
                        try simp only [pv_nI hxj, pv_nI hyj]
                        rw [if_neg ((fun q => q.elim ho_3 ho_6)), if_pos (Or.inl ez7)]) hR rfl) (Nat.le_of_ble_eq_true rfl) (Nat.le_of_ble_eq_true rfl) dX3_loop_48
      · refine W.eq (g2 := F0 m 23 ls [.ref (aR D (sPl S xj))]) (by rw [ep7]; rfl) ?_
        refine lv_astore (lv' := [(6, .ref (aR D (sPl S xj))), (0, .ref (aH D)), (1, .int (nI xj)), (2, .int i), (3, .int (nI yj)), (4, .int j), (5, .int n)]) hx hb dX3_loop_23 hl (by decide) rfl (fun ls hl => ?_)
        refine lv_aload_n hx hb dX3_loop_25 rfl (lv_at hl 1 rfl) ?_
        refine wr_get (ci := 2) (C := RX3) (T := TX3) (N := 2) (v := .ref (aP D)) hx hb hts in_X3 hown hT hI hR.1 rfl 0 (by decide) (hts (.fieldLink RX3 11 "CopyRows" "places" "[LCopyRows$Row;") (by decide +kernel)) rfl dX3_loop_26 ?_
        refine lv_iload_n hx hb dX3_loop_29 rfl (lv_at hl 4 rfl) ?_
        refine wr_aaldN (t := yj) hx hb hT hI hR.2.1 2 rfl (by omega) (by omega) dX3_loop_30 ?_
        rcases hW.pl D yj with ⟨ez13, ep13⟩ | ⟨ez13, hv13, ep13⟩
        · refine W.eq (g2 := F0 m 31 ls [.null]) (by rw [ep13]; rfl) ?_
          refine lv_astoreN (lv' := [(7, .null), (6, .ref (aR D (sPl S xj))), (0, .ref (aH D)), (1, .int (nI xj)), (2, .int i), (3, .int (nI yj)), (4, .int j), (5, .int n)]) hx hb dX3_loop_31 hl (by decide) rfl (fun ls hl => ?_)
          refine lv_aload hx hb dX3_loop_33 (lv_at hl 1 rfl) ?_
          refine lv_ifnull hx hb dX3_loop_35 ?_
          refine lv_aloadN hx hb dX3_loop_38 (lv_at hl 0 rfl) ?_
          refine lv_ifnonnullN hx hb dX3_loop_40 ?_
          refine lv_aload_n hx hb dX3_loop_43 rfl (lv_at hl 2 rfl) ?_
          refine lv_iconst (v := 1) hx hb dX3_loop_44 (by decide) ?_
          refine ca_V (As := [.int 1]) (rest := []) (r0 := (RX3, TX3, 2)) (ci := 2) ⟨hx, hb, hml, hown, hts⟩ (cc_X3_fail l E A _ 1 hR) (cwV 1 hts gX3_loop_X3_fail rfl rfl rfl (by decide +kernel) ⟨(Nat.le_of_ble_eq_true rfl), (Nat.le_of_ble_eq_true rfl)⟩) hT hI hA hS rfl hR.1 rfl rfl hl.1 (Nat.le_of_ble_eq_true rfl) dX3_loop_45 ⟨(Nat.le_of_ble_eq_true rfl), (Nat.le_of_ble_eq_true rfl)⟩ (fun r w_15 H locs hp_14 hI hS => ?_)
          obtain ⟨rfl, hR⟩ := hp_14
          refine W.eq (g2 := F0 m 48 ls [.int 0]) rfl ?_
          exact re_i hx hb hr hlocks hT hA hS hI (PoC.of (by
                        unfold sp_loop
                        try simp only [pv_nI hxj, pv_nI hyj]
                        rw [if_neg ((fun q => q.elim ho_3 ho_6)), if_pos (Or.inr (ez13))]) hR rfl) (Nat.le_of_ble_eq_true rfl) (Nat.le_of_ble_eq_true rfl) dX3_loop_48
        · refine W.eq (g2 := F0 m 31 ls [.ref (aR D (sPl S yj))]) (by rw [ep13]; rfl) ?_
          refine lv_astore (lv' := [(7, .ref (aR D (sPl S yj))), (6, .ref (aR D (sPl S xj))), (0, .ref (aH D)), (1, .int (nI xj)), (2, .int i), (3, .int (nI yj)), (4, .int j), (5, .int n)]) hx hb dX3_loop_31 hl (by decide) rfl (fun ls hl => ?_)
          refine lv_aload hx hb dX3_loop_33 (lv_at hl 1 rfl) ?_
          refine lv_ifnull hx hb dX3_loop_35 ?_
          refine lv_aload hx hb dX3_loop_38 (lv_at hl 0 rfl) ?_
          refine lv_ifnonnull (tgt := 49) hx hb dX3_loop_40 (by decide) ?_
          refine lv_aload hx hb dX3_loop_49 (lv_at hl 0 rfl) ?_
          refine lv_aload hx hb dX3_loop_51 (lv_at hl 1 rfl) ?_
          refine ca_V (As := [.ref (aR D (sPl S xj))]) (rest := []) (r0 := (RX1, TX1, 4)) (ci := 0) ⟨hx, hb, hml, hown, hts⟩ (cc_X1_mayTakeOf l E A _ (hR.2.2.1 _ hv13).1 (hR.2.2.1 _ hv7).1) (cwV 1 hts gX3_loop_X1_mayTakeOf rfl rfl rfl (by decide +kernel) ⟨(Nat.le_of_ble_eq_true rfl), (Nat.le_of_ble_eq_true rfl)⟩) hT hI hA hS rfl (hR.2.2.1 _ hv13).1 rfl rfl hl.1 (Nat.le_of_ble_eq_true rfl) dX3_loop_53 ⟨(Nat.le_of_ble_eq_true rfl), (Nat.le_of_ble_eq_true rfl)⟩ (fun r w_17 H locs hp_16 hI hS => ?_)
          obtain ⟨rfl, ⟨hm_18, rfl⟩ | ⟨hm_18, rfl⟩⟩ := hp_16
          · have hm_18 : mayT (kdv S (sPl S yj)) (kdv S (sPl S xj)) := hm_18
            have hru : vR S (sPl S xj) := vO_row hv7 (fun e9 => hm_18.1 (Or.inr e9))
            have hrv : vR S (sPl S yj) := vO_row hv13 (fun e9 => hm_18.1 (Or.inl e9))
            have hlu := hW.ln (Or.inl hru)
            have hlv := hW.ln (Or.inl hrv)
            refine W.eq (g2 := F0 m 56 ls [.int 1]) rfl ?_
            refine lv_if_ne (tgt := 65) hx hb dX3_loop_56 (by decide) (fun _ => ?_) (fun c => absurd c (by decide))
            by_cases hn0 : n < 0
            · refine lv_aload_n hx hb dX3_loop_65 rfl (lv_at hl 2 rfl) ?_
              refine lv_iconst (v := 0) hx hb dX3_loop_66 (by decide) ?_
              refine wr_put (ci := 2) (C := RX3) (T := TX3) (N := 2) (v := .int 0) (ty := .int) hx hb hts in_X3 tyX3 tyX3_ok nmX3 hown hT hI hS hR.1 rfl 1 (by decide) (hts (.fieldLink RX3 15 "CopyRows" "code" "I") (by decide +kernel)) rfl (by decide +kernel) rfl rfl (Nat.le_of_ble_eq_true rfl) dX3_loop_67 (fun H locs hI hS => ?_)
              have hR := hR.cod (0)
              refine lv_iconst (v := 0) hx hb dX3_loop_70 (by decide) ?_
              refine lv_istore (lv' := [(8, .int 0), (7, .ref (aR D (sPl S yj))), (6, .ref (aR D (sPl S xj))), (0, .ref (aH D)), (1, .int (nI xj)), (2, .int i), (3, .int (nI yj)), (4, .int j), (5, .int n)]) hx hb dX3_loop_71 hl (by decide) rfl (fun ls hl => ?_)
              refine lv_iload hx hb dX3_loop_73 (lv_at hl 0 rfl) ?_
              refine lv_iload hx hb dX3_loop_75 (lv_at hl 8 rfl) ?_
              refine lv_icmp_ge (tgt := 116) hx hb dX3_loop_77 (by decide) (fun c_20 => ?_) (fun c_20 => ?_)
              · refine lv_iload hx hb dX3_loop_116 (lv_at hl 8 rfl) ?_
                refine lv_iconst (v := 0) hx hb dX3_loop_118 (by decide) ?_
                refine va_mmax hx hb (hml.trans hl.1.symm) hown (hts (.methodLink RX3 100 Lib.Math.max.name) (by decide +kernel)) (hts (.static Lib.Math.max.name) (by decide +kernel)) (hts (.initialized "java/lang/Math") (by decide +kernel)) (hts (.code Lib.Math.max.name Lib.Math.max.code 2 (some .int)) (by decide +kernel)) (Nat.le_of_ble_eq_true rfl) (Nat.le_of_ble_eq_true rfl) (Nat.le_of_ble_eq_true rfl) (Nat.le_of_ble_eq_true rfl) dX3_loop_119 ?_
                refine W.eq (g2 := F0 m 122 ls [.int 0]) (by rw [if_pos hn0]) ?_
                exact re_i hx hb hr hlocks hT hA hS hI (PoC.of (by
                                    unfold sp_loop
                                    try simp only [pv_nI hxj, pv_nI hyj]
                                    rw [if_neg ((fun q => q.elim ho_3 ho_6)), if_neg ((fun q => q.elim ez7 ez13)), if_neg (not_not_intro hm_18)]
                                    rw [show ix n = 0 from Int32.toNatClampNeg_eq_zero_iff.mpr (Int32.le_of_lt hn0)]
                                    rfl) hR rfl) (Nat.le_of_ble_eq_true rfl) (Nat.le_of_ble_eq_true rfl) dX3_loop_122
              · exact absurd (Int32.le_of_lt hn0) c_20
            · obtain ⟨nn, hnn, rfl⟩ := nI_of hn0
              refine lv_aload_n hx hb dX3_loop_65 rfl (lv_at hl 2 rfl) ?_
              refine lv_iconst (v := 0) hx hb dX3_loop_66 (by decide) ?_
              refine wr_put (ci := 2) (C := RX3) (T := TX3) (N := 2) (v := .int 0) (ty := .int) hx hb hts in_X3 tyX3 tyX3_ok nmX3 hown hT hI hS hR.1 rfl 1 (by decide) (hts (.fieldLink RX3 15 "CopyRows" "code" "I") (by decide +kernel)) rfl (by decide +kernel) rfl rfl (Nat.le_of_ble_eq_true rfl) dX3_loop_67 (fun H locs hI hS => ?_)
              have hR := hR.cod (0)
              refine lv_iconst (v := 0) hx hb dX3_loop_70 (by decide) ?_
              refine lv_istore (lv' := [(8, .int 0), (7, .ref (aR D (sPl S yj))), (6, .ref (aR D (sPl S xj))), (0, .ref (aH D)), (1, .int (nI xj)), (2, .int i), (3, .int (nI yj)), (4, .int j), (5, .int (nI nn))]) hx hb dX3_loop_71 hl (by decide) rfl (fun ls hl => ?_)
              refine lp_w (ι := Nat × Sx) (fun q9 => nn - q9.1) (fun q9 H locs ls => (q9.1 ≤ nn ∧ Wf q9.2 ∧ (vR q9.2 (sPl S xj) ∧ vR q9.2 (sPl S yj) ∧ mayT (kdv q9.2 (sPl S yj)) (kdv q9.2 (sPl S xj))) ∧ lpS (sPl S xj) (sPl S yj) i j nn 0 S = lpS (sPl S xj) (sPl S yj) i j (nn - q9.1) q9.1 q9.2) ∧ (∃ w9, Hv E A w9 H ∧ Rp E (uCod q9.2 0) D w9) ∧ va_S A s.heap H locs ∧ lv_has ls 9 [(0, .ref (aH D)), (2, .int i), (4, .int j), (5, .int (nI nn)), (6, .ref (aR D (sPl S xj))), (7, .ref (aR D (sPl S yj))), (8, .int (nI q9.1))]) ?_ (0, S) _ _ _ ⟨⟨Nat.zero_le _, hW, ⟨hru, hrv, hm_18⟩, rfl⟩, ⟨_, hI, hR⟩, hS, lv_sub hl [3, 5, 7, 8, 2, 1, 0] rfl⟩
              rintro ⟨t, T9⟩ H locs ls ⟨⟨ht, hW9, ⟨hru, hrv, hm⟩, hlp⟩, ⟨w9, hI, hR⟩, hS, hl⟩ ih
              dsimp only at ht hW9 hru hrv hm hlp hR hl
              refine lv_iload hx hb dX3_loop_73 (lv_at hl 6 rfl) ?_
              refine lv_iload hx hb dX3_loop_75 (lv_at hl 3 rfl) ?_
              refine lv_icmp_ge (tgt := 116) hx hb dX3_loop_77 (by decide) (fun c_22 => ?_) (fun c_22 => ?_)
              · have c_22 : nn ≤ t := (nI_leI (a := nn) (b := t) (by omega) (by omega)).mp c_22
                refine lv_iload hx hb dX3_loop_116 (lv_at hl 3 rfl) ?_
                refine lv_iconst (v := 0) hx hb dX3_loop_118 (by decide) ?_
                refine va_mmax hx hb (hml.trans hl.1.symm) hown (hts (.methodLink RX3 100 Lib.Math.max.name) (by decide +kernel)) (hts (.static Lib.Math.max.name) (by decide +kernel)) (hts (.initialized "java/lang/Math") (by decide +kernel)) (hts (.code Lib.Math.max.name Lib.Math.max.code 2 (some .int)) (by decide +kernel)) (Nat.le_of_ble_eq_true rfl) (Nat.le_of_ble_eq_true rfl) (Nat.le_of_ble_eq_true rfl) (Nat.le_of_ble_eq_true rfl) dX3_loop_119 ?_
                refine W.eq (g2 := F0 m 122 ls [.int (nI nn)]) (by rw [if_neg hn0]) ?_
                exact re_i hx hb hr hlocks hT hA hS hI (PoC.of (by
                                    unfold sp_loop
                                    try simp only [pv_nI hxj, pv_nI hyj]
                                    rw [if_neg ((fun q => q.elim ho_3 ho_6)), if_neg ((fun q => q.elim ez7 ez13)), if_neg (not_not_intro hm_18)]
                                    rw [ix_nI hnn, hlp, show nn - t = 0 by omega]
                                    rw [show t = nn by omega]
                                    rfl) hR rfl) (Nat.le_of_ble_eq_true rfl) (Nat.le_of_ble_eq_true rfl) dX3_loop_122
              · have c_22 : ¬ nn ≤ t := fun q => c_22 ((nI_leI (a := nn) (b := t) (by omega) (by omega)).mpr q)
                refine lv_aload_n hx hb dX3_loop_80 rfl (lv_at hl 0 rfl) ?_
                refine lv_aload hx hb dX3_loop_81 (lv_at hl 4 rfl) ?_
                refine lv_iload_n hx hb dX3_loop_83 rfl (lv_at hl 1 rfl) ?_
                refine lv_iload hx hb dX3_loop_84 (lv_at hl 6 rfl) ?_
                refine lv_iadd hx hb dX3_loop_86 ?_
                refine lv_aload hx hb dX3_loop_87 (lv_at hl 5 rfl) ?_
                refine lv_iload hx hb dX3_loop_89 (lv_at hl 2 rfl) ?_
                refine lv_iload hx hb dX3_loop_91 (lv_at hl 6 rfl) ?_
                refine lv_iadd hx hb dX3_loop_93 ?_
                refine ca_S (As := [.ref (aR D (sPl S xj)), .int (i + (nI t)), .ref (aR D (sPl S yj)), .int (j + (nI t))]) (rest := [.ref (aH D)]) ⟨hx, hb, hml, hown, hts⟩ (cc_X3_moveOne l E A _ (S := uCod T9 0) (i + nI t) (j + nI t) hW9 hR hru hrv hm) (va_cwS 4 hts gX3_loop_X3_moveOne rfl rfl rfl (by decide +kernel) ⟨(Nat.le_of_ble_eq_true rfl), (Nat.le_of_ble_eq_true rfl)⟩) hT hI hA hS rfl rfl hl.1 (Nat.le_of_ble_eq_true rfl) dX3_loop_94 ⟨(Nat.le_of_ble_eq_true rfl), (Nat.le_of_ble_eq_true rfl)⟩ (fun r w_24 H locs hp_23 hI hS => ?_)
                rcases hp_23 with ⟨hin, rfl, hR⟩ | ⟨hin, hok, rfl, hR⟩ | ⟨hin, hok, rfl, hR⟩
                · have hin : oI (lnv T9 (sPl S xj)) (i + nI t) ∨ oI (lnv T9 (sPl S yj)) (j + nI t) := hin
                  refine W.eq (g2 := F0 m 97 ls [.int 3, .ref (aH D)]) rfl ?_
                  refine wr_put (ci := 2) (C := RX3) (T := TX3) (N := 2) (v := .int 3) (ty := .int) hx hb hts in_X3 tyX3 tyX3_ok nmX3 hown hT hI hS hR.1 rfl 1 (by decide) (hts (.fieldLink RX3 15 "CopyRows" "code" "I") (by decide +kernel)) rfl (by decide +kernel) rfl rfl (Nat.le_of_ble_eq_true rfl) dX3_loop_97 (fun H locs hI hS => ?_)
                  have hR := hR.cod (3)
                  refine lv_aload_n hx hb dX3_loop_100 rfl (lv_at hl 0 rfl) ?_
                  refine wr_get (ci := 2) (C := RX3) (T := TX3) (N := 2) (v := .int 3) hx hb hts in_X3 hown hT hI hR.1 rfl 1 (by decide) (hts (.fieldLink RX3 15 "CopyRows" "code" "I") (by decide +kernel)) rfl dX3_loop_101 ?_
                  refine lv_if_eq (tgt := 110) hx hb dX3_loop_104 (by decide) (fun c => absurd c (by decide)) (fun _ => ?_)
                  refine lv_iload hx hb dX3_loop_107 (lv_at hl 6 rfl) ?_
                  exact re_i hx hb hr hlocks hT hA hS hI (PoC.of (by
                                        unfold sp_loop
                                        try simp only [pv_nI hxj, pv_nI hyj]
                                        rw [if_neg ((fun q => q.elim ho_3 ho_6)), if_neg ((fun q => q.elim ez7 ez13)), if_neg (not_not_intro hm_18)]
                                        rw [ix_nI hnn, hlp]
                                        obtain ⟨d9, hd9⟩ : ∃ d9, nn - t = d9 + 1 := ⟨nn - t - 1, by omega⟩
                                        rw [hd9]
                                        simp only [lpS]
                                        rw [if_pos hin]) hR rfl) (Nat.le_of_ble_eq_true rfl) (Nat.le_of_ble_eq_true rfl) dX3_loop_109
                · have hin : ¬ (oI (lnv T9 (sPl S xj)) (i + nI t) ∨ oI (lnv T9 (sPl S yj)) (j + nI t)) := hin
                  have hok : ¬ (isN (kdv T9 (sPl S yj)) ∨ fitS T9 (kdv T9 (sPl S xj)) (itv T9 (sPl S xj) (ix (i + nI t))) (kdv T9 (sPl S yj))) := hok
                  refine W.eq (g2 := F0 m 97 ls [.int 2, .ref (aH D)]) rfl ?_
                  refine wr_put (ci := 2) (C := RX3) (T := TX3) (N := 2) (v := .int 2) (ty := .int) hx hb hts in_X3 tyX3 tyX3_ok nmX3 hown hT hI hS hR.1 rfl 1 (by decide) (hts (.fieldLink RX3 15 "CopyRows" "code" "I") (by decide +kernel)) rfl (by decide +kernel) rfl rfl (Nat.le_of_ble_eq_true rfl) dX3_loop_97 (fun H locs hI hS => ?_)
                  have hR := hR.cod (2)
                  refine lv_aload_n hx hb dX3_loop_100 rfl (lv_at hl 0 rfl) ?_
                  refine wr_get (ci := 2) (C := RX3) (T := TX3) (N := 2) (v := .int 2) hx hb hts in_X3 hown hT hI hR.1 rfl 1 (by decide) (hts (.fieldLink RX3 15 "CopyRows" "code" "I") (by decide +kernel)) rfl dX3_loop_101 ?_
                  refine lv_if_eq (tgt := 110) hx hb dX3_loop_104 (by decide) (fun c => absurd c (by decide)) (fun _ => ?_)
                  refine lv_iload hx hb dX3_loop_107 (lv_at hl 6 rfl) ?_
                  exact re_i hx hb hr hlocks hT hA hS hI (PoC.of (by
                                        unfold sp_loop
                                        try simp only [pv_nI hxj, pv_nI hyj]
                                        rw [if_neg ((fun q => q.elim ho_3 ho_6)), if_neg ((fun q => q.elim ez7 ez13)), if_neg (not_not_intro hm_18)]
                                        rw [ix_nI hnn, hlp]
                                        obtain ⟨d9, hd9⟩ : ∃ d9, nn - t = d9 + 1 := ⟨nn - t - 1, by omega⟩
                                        rw [hd9]
                                        simp only [lpS]
                                        rw [if_neg hin, if_pos hok]) hR rfl) (Nat.le_of_ble_eq_true rfl) (Nat.le_of_ble_eq_true rfl) dX3_loop_109
                · have hin : ¬ (oI (lnv T9 (sPl S xj)) (i + nI t) ∨ oI (lnv T9 (sPl S yj)) (j + nI t)) := hin
                  have hok : isN (kdv T9 (sPl S yj)) ∨ fitS T9 (kdv T9 (sPl S xj)) (itv T9 (sPl S xj) (ix (i + nI t))) (kdv T9 (sPl S yj)) := hok
                  refine W.eq (g2 := F0 m 97 ls [.int 0, .ref (aH D)]) rfl ?_
                  refine wr_put (ci := 2) (C := RX3) (T := TX3) (N := 2) (v := .int 0) (ty := .int) hx hb hts in_X3 tyX3 tyX3_ok nmX3 hown hT hI hS hR.1 rfl 1 (by decide) (hts (.fieldLink RX3 15 "CopyRows" "code" "I") (by decide +kernel)) rfl (by decide +kernel) rfl rfl (Nat.le_of_ble_eq_true rfl) dX3_loop_97 (fun H locs hI hS => ?_)
                  have hR := hR.cod (0)
                  refine lv_aload_n hx hb dX3_loop_100 rfl (lv_at hl 0 rfl) ?_
                  refine wr_get (ci := 2) (C := RX3) (T := TX3) (N := 2) (v := .int 0) hx hb hts in_X3 hown hT hI hR.1 rfl 1 (by decide) (hts (.fieldLink RX3 15 "CopyRows" "code" "I") (by decide +kernel)) rfl dX3_loop_101 ?_
                  refine lv_if_eq (tgt := 110) hx hb dX3_loop_104 (by decide) (fun _ => ?_) (fun c => absurd c (by decide))
                  refine lv_iinc (v := nI (t + 1)) (lv' := [(8, .int (nI (t + 1))), (0, .ref (aH D)), (2, .int i), (4, .int j), (5, .int (nI nn)), (6, .ref (aR D (sPl S xj))), (7, .ref (aR D (sPl S yj)))]) hx hb dX3_loop_110 hl (k := 6) rfl (nI_1 _) (by decide) rfl (fun ls hl => ?_)
                  refine lv_goto (tgt := 73) hx hb dX3_loop_113 (by decide) ?_
                  refine ih (t + 1, uRow T9 (ix (sPl S yj)) (upd (itv T9 (sPl S yj)) (ix (j + nI t)) (itv T9 (sPl S xj) (ix (i + nI t))))) _ _ _ ⟨⟨by show t + 1 ≤ nn; omega, ?_, ⟨hru, hrv, hm⟩, ?_⟩, ⟨_, hI, hR⟩, hS, lv_sub hl [1, 2, 3, 4, 5, 6, 0] rfl⟩ (by show nn - (t + 1) < nn - t; omega)
                  · refine hW9.got hru hrv hm (fun k9 => ?_)
                    by_cases hk9 : k9 = ix (j + nI t)
                    · exact Or.inr ⟨ix (i + nI t), by simp [upd, hk9], fun h9 => hok.resolve_left h9⟩
                    · exact Or.inl (by simp [upd, hk9])
                  · show lpS _ _ i j nn 0 S = lpS _ _ i j (nn - (t + 1)) (t + 1) _
                    rw [hlp]
                    obtain ⟨d9, hd9⟩ : ∃ d9, nn - t = d9 + 1 := ⟨nn - t - 1, by omega⟩
                    rw [hd9, show nn - (t + 1) = d9 by omega]
                    simp only [lpS]
                    rw [if_neg hin, if_neg (not_not_intro hok)]
          · have hm_18 : ¬ mayT (kdv S (sPl S yj)) (kdv S (sPl S xj)) := hm_18
            refine W.eq (g2 := F0 m 56 ls [.int 0]) rfl ?_
            refine lv_if_ne (tgt := 65) hx hb dX3_loop_56 (by decide) (fun c => absurd c (by decide)) (fun _ => ?_)
            refine lv_aload_n hx hb dX3_loop_59 rfl (lv_at hl 2 rfl) ?_
            refine lv_iconst (v := 2) hx hb dX3_loop_60 (by decide) ?_
            refine ca_V (As := [.int 2]) (rest := []) (r0 := (RX3, TX3, 2)) (ci := 2) ⟨hx, hb, hml, hown, hts⟩ (cc_X3_fail l E A _ 2 hR) (cwV 1 hts gX3_loop_X3_fail rfl rfl rfl (by decide +kernel) ⟨(Nat.le_of_ble_eq_true rfl), (Nat.le_of_ble_eq_true rfl)⟩) hT hI hA hS rfl hR.1 rfl rfl hl.1 (Nat.le_of_ble_eq_true rfl) dX3_loop_61 ⟨(Nat.le_of_ble_eq_true rfl), (Nat.le_of_ble_eq_true rfl)⟩ (fun r w_29 H locs hp_28 hI hS => ?_)
            obtain ⟨rfl, hR⟩ := hp_28
            refine W.eq (g2 := F0 m 64 ls [.int 0]) rfl ?_
            exact re_i hx hb hr hlocks hT hA hS hI (PoC.of (by
                            unfold sp_loop
                            try simp only [pv_nI hxj, pv_nI hyj]
                            rw [if_neg ((fun q => q.elim ho_3 ho_6)), if_neg ((fun q => q.elim ez7 ez13)), if_pos (hm_18)]) hR rfl) (Nat.le_of_ble_eq_true rfl) (Nat.le_of_ble_eq_true rfl) dX3_loop_64
