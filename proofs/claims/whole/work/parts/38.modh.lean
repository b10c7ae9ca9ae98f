theorem new_row {S : Sx} {k : Int32} {n : Nat} {F : Nat → Int32} {j : Nat} {x : Int32} : uRow (uNew S k n F) (sNr S) (upd (sIt (uNew S k n F) (sNr S)) j x) = uNew S k n (upd F j x) := by
  have e : sIt (uNew S k n F) (sNr S) = F := by simp [sIt, uNew, va_up, sNr]
  rw [e]
  show (S.1, S.2.1, S.2.2.1 + 1, upd S.2.2.2.1 S.2.2.1 k, va_up S.2.2.2.2.1 S.2.2.1 n, va_up (va_up S.2.2.2.2.2.1 S.2.2.1 F) S.2.2.1 (upd F j x), S.2.2.2.2.2.2) = _
  rw [up_up]
theorem new_ix {S : Sx} {v : Int32} (hv : vR S v) : ¬ ix v = S.2.2.1 := fun e => by have h := hv.2; have h : ix v < S.2.2.1 := h; omega
theorem new_it {S : Sx} {k : Int32} {n : Nat} {F : Nat → Int32} {v : Int32} (hv : vR S v) : itv (uNew S k n F) v = itv S v := by
  have h := new_ix hv
  unfold itv
  rw [if_neg hv.1, if_neg hv.1]
  simp [sIt, uNew, va_up, h]
theorem new_ln {S : Sx} {k : Int32} {n : Nat} {F : Nat → Int32} {v : Int32} (hv : vR S v) : lnv (uNew S k n F) v = lnv S v := by
  have h := new_ix hv
  unfold lnv
  rw [if_neg hv.1, if_neg hv.1]
  simp [sLn, uNew, va_up, h]
theorem new_vr {S : Sx} {k : Int32} {n : Nat} {F : Nat → Int32} {v : Int32} (hv : vR S v) : vR (uNew S k n F) v := ⟨hv.1, Nat.lt_succ_of_lt hv.2⟩
theorem new_sl {S : Sx} {k : Int32} {n : Nat} {F : Nat → Int32} : sLn (uNew S k n F) (sNr S) = n := by simp [sLn, uNew, va_up, sNr]
theorem Rm.pls {E : En} {S S' : Sx} {M : Md} {t : Nat → Int32} {w : Wd} (h : Rm E S M t w) (hp : plF S' = plF S) (hc : sCod S' = sCod S) (h2 : S'.2.2 = S.2.2) : Rm E S' M t w := by
  obtain ⟨c, p, s⟩ := S'
  obtain ⟨c1, p1, s1⟩ := S
  cases h2
  cases hc
  obtain ⟨a1, a2, a3⟩ := h
  refine ⟨a1, ?_, a3⟩
  rw [hp]
  exact a2
set_option maxHeartbeats 4000000 in
set_option maxRecDepth 100000 in
theorem cc_X4_join (l : Launch) (E : En) (A : Nat → Prop) (w : Wd) {S : Sx} {M : Md} {tt : Nat → Int32} (p a b : Int32) (hW : Wf S) (hR : Rm E S M tt w) (hb9 : sNr S < 512 ∧ sNt S < 512 ∧ sNl S < 512) : Ct l yX4_join wsX4_join ({ frames := 2, cells := 0, slots := 0, locals := 46 } : Room) E A w [.ref (mH M), .int p, .int a, .int b] (fun r w' => PoM E M (sp_join S p a b) r w') 0 0 := by
  refine Met.ofW (cc := cX4_join) (maxL := 9) (ret := (some .int)) (by decide) rfl ?_
  intro pp0 ee0 s m args below meth cc0 s₁ B hml hv
  obtain ⟨rfl, hT, hI, hA⟩ := hv
  have hx := B.exec
  have hb := B.bytes
  have hr := B.returns
  have hts := atoms_spec (ws := wsX4_join) B.pre
  have hown : s.vm.findClass RX4 = some m.cls := findClass_of_methodNamed B.named
  have hlocks := B.notSynchronized
  have in_X4 : ∀ w ∈ wsX40, w ∈ wsX4_join := by decide +kernel
  have hS : va_S A s.heap s.heap [] := va_S.rf
  have hl := lv_entry ([.ref (mH M), .int p, .int a, .int b]) (n := 9) (Nat.le_of_ble_eq_true rfl)
  rw [lg_entry_eq]
  generalize (lg_sl ([.ref (mH M), .int p, .int a, .int b]) ++ List.replicate (9 - (lg_sl ([.ref (mH M), .int p, .int a, .int b])).length) Slot.unset).toArray = ls at hl ⊢
  have hl : lv_has ls 9 [(0, .ref (mH M)), (1, .int p), (2, .int a), (3, .int b)] := hl
  refine lv_iload_n hx hb dX4_join_0 rfl (lv_at hl 1 rfl) ?_
  refine ca_S (As := [.int p]) (rest := []) ⟨hx, hb, hml, hown, hts⟩ (cc_X4_isPlace l E A _ p) (va_cwS 1 hts gX4_join_X4_isPlace rfl rfl rfl (by decide +kernel) ⟨(Nat.le_of_ble_eq_true rfl), (Nat.le_of_ble_eq_true rfl)⟩) hT hI hA hS rfl rfl hl.1 (Nat.le_of_ble_eq_true rfl) dX4_join_1 ⟨(Nat.le_of_ble_eq_true rfl), (Nat.le_of_ble_eq_true rfl)⟩ (fun r w_2 H locs hp_1 hI hS => ?_)
  obtain ⟨rfl, ⟨ho_3, rfl⟩ | ⟨ho_3, rfl⟩⟩ := hp_1
  · refine W.eq (g2 := F0 m 4 ls [.int 1]) rfl ?_
    refine lv_if_eq (tgt := 21) hx hb dX4_join_4 (by decide) (fun c => absurd c (by decide)) (fun _ => ?_)
    refine lv_iload_n hx hb dX4_join_7 rfl (lv_at hl 2 rfl) ?_
    refine ca_S (As := [.int a]) (rest := []) ⟨hx, hb, hml, hown, hts⟩ (cc_X4_isPlace l E A _ a) (va_cwS 1 hts gX4_join_X4_isPlace rfl rfl rfl (by decide +kernel) ⟨(Nat.le_of_ble_eq_true rfl), (Nat.le_of_ble_eq_true rfl)⟩) hT hI hA hS rfl rfl hl.1 (Nat.le_of_ble_eq_true rfl) dX4_join_8 ⟨(Nat.le_of_ble_eq_true rfl), (Nat.le_of_ble_eq_true rfl)⟩ (fun r w_5 H locs hp_4 hI hS => ?_)
    obtain ⟨rfl, ⟨ho_6, rfl⟩ | ⟨ho_6, rfl⟩⟩ := hp_4
    · refine W.eq (g2 := F0 m 11 ls [.int 1]) rfl ?_
      refine lv_if_eq (tgt := 21) hx hb dX4_join_11 (by decide) (fun c => absurd c (by decide)) (fun _ => ?_)
      refine lv_iload_n hx hb dX4_join_14 rfl (lv_at hl 3 rfl) ?_
      refine ca_S (As := [.int b]) (rest := []) ⟨hx, hb, hml, hown, hts⟩ (cc_X4_isPlace l E A _ b) (va_cwS 1 hts gX4_join_X4_isPlace rfl rfl rfl (by decide +kernel) ⟨(Nat.le_of_ble_eq_true rfl), (Nat.le_of_ble_eq_true rfl)⟩) hT hI hA hS rfl rfl hl.1 (Nat.le_of_ble_eq_true rfl) dX4_join_15 ⟨(Nat.le_of_ble_eq_true rfl), (Nat.le_of_ble_eq_true rfl)⟩ (fun r w_8 H locs hp_7 hI hS => ?_)
      obtain ⟨rfl, ⟨ho_9, rfl⟩ | ⟨ho_9, rfl⟩⟩ := hp_7
      · refine W.eq (g2 := F0 m 18 ls [.int 1]) rfl ?_
        refine lv_if_ne (tgt := 24) hx hb dX4_join_18 (by decide) (fun _ => ?_) (fun c => absurd c (by decide))
        obtain ⟨pj, hpj, rfl⟩ := isP_nat ho_3
        obtain ⟨aj, haj, rfl⟩ := isP_nat ho_6
        obtain ⟨bj, hbj, rfl⟩ := isP_nat ho_9
        refine lv_aload_n hx hb dX4_join_24 rfl (lv_at hl 0 rfl) ?_
        refine wr_get (ci := 3) (C := RX4) (T := TX4) (N := 11) (v := .ref (mP M)) hx hb hts in_X4 hown hT hI hR.1 rfl 1 (by decide) (hts (.fieldLink RX4 7 "CopyRowsModel" "places" "[I") (by decide +kernel)) rfl dX4_join_25 ?_
        refine lv_iload_n hx hb dX4_join_28 rfl (lv_at hl 2 rfl) ?_
        refine wr_ialdN (t := aj) (n := 12) (f := plF S) hx hb hT hI hR.2.1 (by omega) (by omega) dX4_join_29 ?_
        refine W.eq (g2 := F0 m 30 ls [.int (sPl S aj)]) (by rw [plF_at (by omega)]) ?_
        refine lv_iconst (v := -1) hx hb dX4_join_30 (by decide) ?_
        refine lv_icmp_eq (tgt := 44) hx hb dX4_join_31 (by decide) (fun c_10 => ?_) (fun c_10 => ?_)
        · refine lv_iconst (v := 1) hx hb dX4_join_44 (by decide) ?_
          refine lv_goto (tgt := 67) hx hb dX4_join_45 (by decide) ?_
          refine lv_istore (lv' := [(4, .int 1), (0, .ref (mH M)), (1, .int (nI pj)), (2, .int (nI aj)), (3, .int (nI bj))]) hx hb dX4_join_67 hl (by decide) rfl (fun ls hl => ?_)
          refine lv_iload hx hb dX4_join_69 (lv_at hl 0 rfl) ?_
          refine lv_if_ne (tgt := 93) hx hb dX4_join_71 (by decide) (fun _ => ?_) (fun c => absurd c (by decide))
          refine lv_iload hx hb dX4_join_93 (lv_at hl 0 rfl) ?_
          refine lv_if_ne (tgt := 106) hx hb dX4_join_95 (by decide) (fun _ => ?_) (fun c => absurd c (by decide))
          refine lv_aload_n hx hb dX4_join_106 rfl (lv_at hl 1 rfl) ?_
          refine wr_get (ci := 3) (C := RX4) (T := TX4) (N := 11) (v := .ref (mP M)) hx hb hts in_X4 hown hT hI hR.1 rfl 1 (by decide) (hts (.fieldLink RX4 7 "CopyRowsModel" "places" "[I") (by decide +kernel)) rfl dX4_join_107 ?_
          refine lv_iload_n hx hb dX4_join_110 rfl (lv_at hl 3 rfl) ?_
          refine wr_ialdN (t := aj) (n := 12) (f := plF S) hx hb hT hI hR.2.1 (by omega) (by omega) dX4_join_111 ?_
          refine W.eq (g2 := F0 m 112 ls [.int (sPl S aj)]) (by rw [plF_at (by omega)]) ?_
          refine lv_istore (lv' := [(5, .int (sPl S aj)), (4, .int 1), (0, .ref (mH M)), (1, .int (nI pj)), (2, .int (nI aj)), (3, .int (nI bj))]) hx hb dX4_join_112 hl (by decide) rfl (fun ls hl => ?_)
          refine lv_aload_n hx hb dX4_join_114 rfl (lv_at hl 2 rfl) ?_
          refine wr_get (ci := 3) (C := RX4) (T := TX4) (N := 11) (v := .ref (mP M)) hx hb hts in_X4 hown hT hI hR.1 rfl 1 (by decide) (hts (.fieldLink RX4 7 "CopyRowsModel" "places" "[I") (by decide +kernel)) rfl dX4_join_115 ?_
          refine lv_iload_n hx hb dX4_join_118 rfl (lv_at hl 5 rfl) ?_
          refine wr_ialdN (t := bj) (n := 12) (f := plF S) hx hb hT hI hR.2.1 (by omega) (by omega) dX4_join_119 ?_
          refine W.eq (g2 := F0 m 120 ls [.int (sPl S bj)]) (by rw [plF_at (by omega)]) ?_
          refine lv_istore (lv' := [(6, .int (sPl S bj)), (5, .int (sPl S aj)), (4, .int 1), (0, .ref (mH M)), (1, .int (nI pj)), (2, .int (nI aj)), (3, .int (nI bj))]) hx hb dX4_join_120 hl (by decide) rfl (fun ls hl => ?_)
          refine lv_iconst (v := 0) hx hb dX4_join_122 (by decide) ?_
          refine lv_istore (lv' := [(7, .int 0), (6, .int (sPl S bj)), (5, .int (sPl S aj)), (4, .int 1), (0, .ref (mH M)), (1, .int (nI pj)), (2, .int (nI aj)), (3, .int (nI bj))]) hx hb dX4_join_123 hl (by decide) rfl (fun ls hl => ?_)
          refine lv_iload hx hb dX4_join_125 (lv_at hl 3 rfl) ?_
          refine lv_if_ne (tgt := 195) hx hb dX4_join_127 (by decide) (fun _ => ?_) (fun c => absurd c (by decide))
          refine lv_iload hx hb dX4_join_195 (lv_at hl 3 rfl) ?_
          refine lv_if_eq (tgt := 207) hx hb dX4_join_197 (by decide) (fun c => absurd c (by decide)) (fun _ => ?_)
          refine lv_aload_n hx hb dX4_join_200 rfl (lv_at hl 4 rfl) ?_
          refine lv_iload hx hb dX4_join_201 (lv_at hl 3 rfl) ?_
          refine ca_V (As := [.int 1]) (rest := []) (r0 := (RX4, TX4, 11)) (ci := 3) ⟨hx, hb, hml, hown, hts⟩ (cc_X4_no l E A _ 1 hR) (cwV 1 hts gX4_join_X4_no rfl rfl rfl (by decide +kernel) ⟨(Nat.le_of_ble_eq_true rfl), (Nat.le_of_ble_eq_true rfl)⟩) hT hI hA hS rfl hR.1 rfl rfl hl.1 (Nat.le_of_ble_eq_true rfl) dX4_join_203 ⟨(Nat.le_of_ble_eq_true rfl), (Nat.le_of_ble_eq_true rfl)⟩ (fun r w_12 H locs hp_11 hI hS => ?_)
          obtain ⟨rfl, hR⟩ := hp_11
          refine W.eq (g2 := F0 m 206 ls [.int 0]) rfl ?_
          exact re_i hx hb hr hlocks hT hA hS hI (PoM.of (by
                        unfold sp_join
                        try simp only [pv_nI hpj, pv_nI haj, pv_nI hbj]
                        rw [if_neg ((fun q => q.elim ho_3 (fun q => q.elim ho_6 ho_9))), if_pos (Or.inl c_10)]) hR) (Nat.le_of_ble_eq_true rfl) (Nat.le_of_ble_eq_true rfl) dX4_join_206
        · refine lv_aload_n hx hb dX4_join_34 rfl (lv_at hl 0 rfl) ?_
          refine wr_get (ci := 3) (C := RX4) (T := TX4) (N := 11) (v := .ref (mP M)) hx hb hts in_X4 hown hT hI hR.1 rfl 1 (by decide) (hts (.fieldLink RX4 7 "CopyRowsModel" "places" "[I") (by decide +kernel)) rfl dX4_join_35 ?_
          refine lv_iload_n hx hb dX4_join_38 rfl (lv_at hl 3 rfl) ?_
          refine wr_ialdN (t := bj) (n := 12) (f := plF S) hx hb hT hI hR.2.1 (by omega) (by omega) dX4_join_39 ?_
          refine W.eq (g2 := F0 m 40 ls [.int (sPl S bj)]) (by rw [plF_at (by omega)]) ?_
          refine lv_iconst (v := -1) hx hb dX4_join_40 (by decide) ?_
          refine lv_icmp_ne (tgt := 48) hx hb dX4_join_41 (by decide) (fun c_13 => ?_) (fun c_13 => ?_)
          · refine lv_aload_n hx hb dX4_join_48 rfl (lv_at hl 0 rfl) ?_
            refine lv_iload_n hx hb dX4_join_49 rfl (lv_at hl 2 rfl) ?_
            refine ca_V (As := [.int (nI aj)]) (rest := []) (r0 := (RX4, TX4, 11)) (ci := 3) ⟨hx, hb, hml, hown, hts⟩ (cc_X4_wantsRow l E A _ (by omega) hW hR) (cwV 1 hts gX4_join_X4_wantsRow rfl rfl rfl (by decide +kernel) ⟨(Nat.le_of_ble_eq_true rfl), (Nat.le_of_ble_eq_true rfl)⟩) hT hI hA hS rfl hR.1 rfl rfl hl.1 (Nat.le_of_ble_eq_true rfl) dX4_join_50 ⟨(Nat.le_of_ble_eq_true rfl), (Nat.le_of_ble_eq_true rfl)⟩ (fun r w_15 H locs hp_14 hI hS => ?_)
            obtain ⟨rfl, ⟨ez16, rfl⟩ | ⟨ez16, e616, rfl⟩ | ⟨ez16, hr16, rfl⟩⟩ := hp_14
            · exact absurd ez16 c_10
            · refine W.eq (g2 := F0 m 53 ls [.int 5]) rfl ?_
              refine lv_aload_n hx hb dX4_join_53 rfl (lv_at hl 0 rfl) ?_
              refine lv_iload_n hx hb dX4_join_54 rfl (lv_at hl 3 rfl) ?_
              refine ca_V (As := [.int (nI bj)]) (rest := [.int 5]) (r0 := (RX4, TX4, 11)) (ci := 3) ⟨hx, hb, hml, hown, hts⟩ (cc_X4_wantsRow l E A _ (by omega) hW hR) (cwV 1 hts gX4_join_X4_wantsRow rfl rfl rfl (by decide +kernel) ⟨(Nat.le_of_ble_eq_true rfl), (Nat.le_of_ble_eq_true rfl)⟩) hT hI hA hS rfl hR.1 rfl rfl hl.1 (Nat.le_of_ble_eq_true rfl) dX4_join_55 ⟨(Nat.le_of_ble_eq_true rfl), (Nat.le_of_ble_eq_true rfl)⟩ (fun r w_18 H locs hp_17 hI hS => ?_)
              obtain ⟨rfl, ⟨ez19, rfl⟩ | ⟨ez19, e619, rfl⟩ | ⟨ez19, hr19, rfl⟩⟩ := hp_17
              · exact absurd ez19 c_13
              · refine W.eq (g2 := F0 m 58 ls [.int 5, .int 5]) rfl ?_
                refine lv_iadd hx hb dX4_join_58 ?_
                refine W.eq (g2 := F0 m 59 ls [.int 10]) rfl ?_
                refine lv_if_le (tgt := 66) hx hb dX4_join_59 (by decide) (fun c => absurd c (by decide)) (fun _ => ?_)
                refine lv_iconst (v := 5) hx hb dX4_join_62 (by decide) ?_
                refine lv_goto (tgt := 67) hx hb dX4_join_63 (by decide) ?_
                refine lv_istore (lv' := [(4, .int 5), (0, .ref (mH M)), (1, .int (nI pj)), (2, .int (nI aj)), (3, .int (nI bj))]) hx hb dX4_join_67 hl (by decide) rfl (fun ls hl => ?_)
                refine lv_iload hx hb dX4_join_69 (lv_at hl 0 rfl) ?_
                refine lv_if_ne (tgt := 93) hx hb dX4_join_71 (by decide) (fun _ => ?_) (fun c => absurd c (by decide))
                refine lv_iload hx hb dX4_join_93 (lv_at hl 0 rfl) ?_
                refine lv_if_ne (tgt := 106) hx hb dX4_join_95 (by decide) (fun _ => ?_) (fun c => absurd c (by decide))
                refine lv_aload_n hx hb dX4_join_106 rfl (lv_at hl 1 rfl) ?_
                refine wr_get (ci := 3) (C := RX4) (T := TX4) (N := 11) (v := .ref (mP M)) hx hb hts in_X4 hown hT hI hR.1 rfl 1 (by decide) (hts (.fieldLink RX4 7 "CopyRowsModel" "places" "[I") (by decide +kernel)) rfl dX4_join_107 ?_
                refine lv_iload_n hx hb dX4_join_110 rfl (lv_at hl 3 rfl) ?_
                refine wr_ialdN (t := aj) (n := 12) (f := plF S) hx hb hT hI hR.2.1 (by omega) (by omega) dX4_join_111 ?_
                refine W.eq (g2 := F0 m 112 ls [.int (sPl S aj)]) (by rw [plF_at (by omega)]) ?_
                refine lv_istore (lv' := [(5, .int (sPl S aj)), (4, .int 5), (0, .ref (mH M)), (1, .int (nI pj)), (2, .int (nI aj)), (3, .int (nI bj))]) hx hb dX4_join_112 hl (by decide) rfl (fun ls hl => ?_)
                refine lv_aload_n hx hb dX4_join_114 rfl (lv_at hl 2 rfl) ?_
                refine wr_get (ci := 3) (C := RX4) (T := TX4) (N := 11) (v := .ref (mP M)) hx hb hts in_X4 hown hT hI hR.1 rfl 1 (by decide) (hts (.fieldLink RX4 7 "CopyRowsModel" "places" "[I") (by decide +kernel)) rfl dX4_join_115 ?_
                refine lv_iload_n hx hb dX4_join_118 rfl (lv_at hl 5 rfl) ?_
                refine wr_ialdN (t := bj) (n := 12) (f := plF S) hx hb hT hI hR.2.1 (by omega) (by omega) dX4_join_119 ?_
                refine W.eq (g2 := F0 m 120 ls [.int (sPl S bj)]) (by rw [plF_at (by omega)]) ?_
                refine lv_istore (lv' := [(6, .int (sPl S bj)), (5, .int (sPl S aj)), (4, .int 5), (0, .ref (mH M)), (1, .int (nI pj)), (2, .int (nI aj)), (3, .int (nI bj))]) hx hb dX4_join_120 hl (by decide) rfl (fun ls hl => ?_)
                refine lv_iconst (v := 0) hx hb dX4_join_122 (by decide) ?_
                refine lv_istore (lv' := [(7, .int 0), (6, .int (sPl S bj)), (5, .int (sPl S aj)), (4, .int 5), (0, .ref (mH M)), (1, .int (nI pj)), (2, .int (nI aj)), (3, .int (nI bj))]) hx hb dX4_join_123 hl (by decide) rfl (fun ls hl => ?_)
                refine lv_iload hx hb dX4_join_125 (lv_at hl 3 rfl) ?_
                refine lv_if_ne (tgt := 195) hx hb dX4_join_127 (by decide) (fun _ => ?_) (fun c => absurd c (by decide))
                refine lv_iload hx hb dX4_join_195 (lv_at hl 3 rfl) ?_
                refine lv_if_eq (tgt := 207) hx hb dX4_join_197 (by decide) (fun c => absurd c (by decide)) (fun _ => ?_)
                refine lv_aload_n hx hb dX4_join_200 rfl (lv_at hl 4 rfl) ?_
                refine lv_iload hx hb dX4_join_201 (lv_at hl 3 rfl) ?_
                refine ca_V (As := [.int 5]) (rest := []) (r0 := (RX4, TX4, 11)) (ci := 3) ⟨hx, hb, hml, hown, hts⟩ (cc_X4_no l E A _ 5 hR) (cwV 1 hts gX4_join_X4_no rfl rfl rfl (by decide +kernel) ⟨(Nat.le_of_ble_eq_true rfl), (Nat.le_of_ble_eq_true rfl)⟩) hT hI hA hS rfl hR.1 rfl rfl hl.1 (Nat.le_of_ble_eq_true rfl) dX4_join_203 ⟨(Nat.le_of_ble_eq_true rfl), (Nat.le_of_ble_eq_true rfl)⟩ (fun r w_21 H locs hp_20 hI hS => ?_)
                obtain ⟨rfl, hR⟩ := hp_20
                refine W.eq (g2 := F0 m 206 ls [.int 0]) rfl ?_
                exact re_i hx hb hr hlocks hT hA hS hI (PoM.of (by
                                    unfold sp_join
                                    try simp only [pv_nI hpj, pv_nI haj, pv_nI hbj]
                                    rw [if_neg ((fun q => q.elim ho_3 (fun q => q.elim ho_6 ho_9))), if_neg (fun q9 => q9.elim c_10 c_13), if_pos (Or.inl e616)]) hR) (Nat.le_of_ble_eq_true rfl) (Nat.le_of_ble_eq_true rfl) dX4_join_206
              · have hln19 := hW.ln (Or.inl hr19)
                refine W.eq (g2 := F0 m 58 ls [.int 0, .int 5]) rfl ?_
                refine lv_iadd hx hb dX4_join_58 ?_
                refine W.eq (g2 := F0 m 59 ls [.int 5]) rfl ?_
                refine lv_if_le (tgt := 66) hx hb dX4_join_59 (by decide) (fun c => absurd c (by decide)) (fun _ => ?_)
                refine lv_iconst (v := 5) hx hb dX4_join_62 (by decide) ?_
                refine lv_goto (tgt := 67) hx hb dX4_join_63 (by decide) ?_
                refine lv_istore (lv' := [(4, .int 5), (0, .ref (mH M)), (1, .int (nI pj)), (2, .int (nI aj)), (3, .int (nI bj))]) hx hb dX4_join_67 hl (by decide) rfl (fun ls hl => ?_)
                refine lv_iload hx hb dX4_join_69 (lv_at hl 0 rfl) ?_
                refine lv_if_ne (tgt := 93) hx hb dX4_join_71 (by decide) (fun _ => ?_) (fun c => absurd c (by decide))
                refine lv_iload hx hb dX4_join_93 (lv_at hl 0 rfl) ?_
                refine lv_if_ne (tgt := 106) hx hb dX4_join_95 (by decide) (fun _ => ?_) (fun c => absurd c (by decide))
                refine lv_aload_n hx hb dX4_join_106 rfl (lv_at hl 1 rfl) ?_
                refine wr_get (ci := 3) (C := RX4) (T := TX4) (N := 11) (v := .ref (mP M)) hx hb hts in_X4 hown hT hI hR.1 rfl 1 (by decide) (hts (.fieldLink RX4 7 "CopyRowsModel" "places" "[I") (by decide +kernel)) rfl dX4_join_107 ?_
                refine lv_iload_n hx hb dX4_join_110 rfl (lv_at hl 3 rfl) ?_
                refine wr_ialdN (t := aj) (n := 12) (f := plF S) hx hb hT hI hR.2.1 (by omega) (by omega) dX4_join_111 ?_
                refine W.eq (g2 := F0 m 112 ls [.int (sPl S aj)]) (by rw [plF_at (by omega)]) ?_
                refine lv_istore (lv' := [(5, .int (sPl S aj)), (4, .int 5), (0, .ref (mH M)), (1, .int (nI pj)), (2, .int (nI aj)), (3, .int (nI bj))]) hx hb dX4_join_112 hl (by decide) rfl (fun ls hl => ?_)
                refine lv_aload_n hx hb dX4_join_114 rfl (lv_at hl 2 rfl) ?_
                refine wr_get (ci := 3) (C := RX4) (T := TX4) (N := 11) (v := .ref (mP M)) hx hb hts in_X4 hown hT hI hR.1 rfl 1 (by decide) (hts (.fieldLink RX4 7 "CopyRowsModel" "places" "[I") (by decide +kernel)) rfl dX4_join_115 ?_
                refine lv_iload_n hx hb dX4_join_118 rfl (lv_at hl 5 rfl) ?_
                refine wr_ialdN (t := bj) (n := 12) (f := plF S) hx hb hT hI hR.2.1 (by omega) (by omega) dX4_join_119 ?_
                refine W.eq (g2 := F0 m 120 ls [.int (sPl S bj)]) (by rw [plF_at (by omega)]) ?_
                refine lv_istore (lv' := [(6, .int (sPl S bj)), (5, .int (sPl S aj)), (4, .int 5), (0, .ref (mH M)), (1, .int (nI pj)), (2, .int (nI aj)), (3, .int (nI bj))]) hx hb dX4_join_120 hl (by decide) rfl (fun ls hl => ?_)
                refine lv_iconst (v := 0) hx hb dX4_join_122 (by decide) ?_
                refine lv_istore (lv' := [(7, .int 0), (6, .int (sPl S bj)), (5, .int (sPl S aj)), (4, .int 5), (0, .ref (mH M)), (1, .int (nI pj)), (2, .int (nI aj)), (3, .int (nI bj))]) hx hb dX4_join_123 hl (by decide) rfl (fun ls hl => ?_)
                refine lv_iload hx hb dX4_join_125 (lv_at hl 3 rfl) ?_
                refine lv_if_ne (tgt := 195) hx hb dX4_join_127 (by decide) (fun _ => ?_) (fun c => absurd c (by decide))
                refine lv_iload hx hb dX4_join_195 (lv_at hl 3 rfl) ?_
                refine lv_if_eq (tgt := 207) hx hb dX4_join_197 (by decide) (fun c => absurd c (by decide)) (fun _ => ?_)
                refine lv_aload_n hx hb dX4_join_200 rfl (lv_at hl 4 rfl) ?_
                refine lv_iload hx hb dX4_join_201 (lv_at hl 3 rfl) ?_
                refine ca_V (As := [.int 5]) (rest := []) (r0 := (RX4, TX4, 11)) (ci := 3) ⟨hx, hb, hml, hown, hts⟩ (cc_X4_no l E A _ 5 hR) (cwV 1 hts gX4_join_X4_no rfl rfl rfl (by decide +kernel) ⟨(Nat.le_of_ble_eq_true rfl), (Nat.le_of_ble_eq_true rfl)⟩) hT hI hA hS rfl hR.1 rfl rfl hl.1 (Nat.le_of_ble_eq_true rfl) dX4_join_203 ⟨(Nat.le_of_ble_eq_true rfl), (Nat.le_of_ble_eq_true rfl)⟩ (fun r w_23 H locs hp_22 hI hS => ?_)
                obtain ⟨rfl, hR⟩ := hp_22
                refine W.eq (g2 := F0 m 206 ls [.int 0]) rfl ?_
                exact re_i hx hb hr hlocks hT hA hS hI (PoM.of (by
                                    unfold sp_join
                                    try simp only [pv_nI hpj, pv_nI haj, pv_nI hbj]
                                    rw [if_neg ((fun q => q.elim ho_3 (fun q => q.elim ho_6 ho_9))), if_neg (fun q9 => q9.elim c_10 c_13), if_pos (Or.inl e616)]) hR) (Nat.le_of_ble_eq_true rfl) (Nat.le_of_ble_eq_true rfl) dX4_join_206
            · have hln16 := hW.ln (Or.inl hr16)
              refine W.eq (g2 := F0 m 53 ls [.int 0]) rfl ?_
              refine lv_aload_n hx hb dX4_join_53 rfl (lv_at hl 0 rfl) ?_
              refine lv_iload_n hx hb dX4_join_54 rfl (lv_at hl 3 rfl) ?_
              refine ca_V (As := [.int (nI bj)]) (rest := [.int 0]) (r0 := (RX4, TX4, 11)) (ci := 3) ⟨hx, hb, hml, hown, hts⟩ (cc_X4_wantsRow l E A _ (by omega) hW hR) (cwV 1 hts gX4_join_X4_wantsRow rfl rfl rfl (by decide +kernel) ⟨(Nat.le_of_ble_eq_true rfl), (Nat.le_of_ble_eq_true rfl)⟩) hT hI hA hS rfl hR.1 rfl rfl hl.1 (Nat.le_of_ble_eq_true rfl) dX4_join_55 ⟨(Nat.le_of_ble_eq_true rfl), (Nat.le_of_ble_eq_true rfl)⟩ (fun r w_25 H locs hp_24 hI hS => ?_)
              obtain ⟨rfl, ⟨ez26, rfl⟩ | ⟨ez26, e626, rfl⟩ | ⟨ez26, hr26, rfl⟩⟩ := hp_24
              · exact absurd ez26 c_13
              · refine W.eq (g2 := F0 m 58 ls [.int 5, .int 0]) rfl ?_
                refine lv_iadd hx hb dX4_join_58 ?_
                refine W.eq (g2 := F0 m 59 ls [.int 5]) rfl ?_
                refine lv_if_le (tgt := 66) hx hb dX4_join_59 (by decide) (fun c => absurd c (by decide)) (fun _ => ?_)
                refine lv_iconst (v := 5) hx hb dX4_join_62 (by decide) ?_
                refine lv_goto (tgt := 67) hx hb dX4_join_63 (by decide) ?_
                refine lv_istore (lv' := [(4, .int 5), (0, .ref (mH M)), (1, .int (nI pj)), (2, .int (nI aj)), (3, .int (nI bj))]) hx hb dX4_join_67 hl (by decide) rfl (fun ls hl => ?_)
                refine lv_iload hx hb dX4_join_69 (lv_at hl 0 rfl) ?_
                refine lv_if_ne (tgt := 93) hx hb dX4_join_71 (by decide) (fun _ => ?_) (fun c => absurd c (by decide))
                refine lv_iload hx hb dX4_join_93 (lv_at hl 0 rfl) ?_
                refine lv_if_ne (tgt := 106) hx hb dX4_join_95 (by decide) (fun _ => ?_) (fun c => absurd c (by decide))
                refine lv_aload_n hx hb dX4_join_106 rfl (lv_at hl 1 rfl) ?_
                refine wr_get (ci := 3) (C := RX4) (T := TX4) (N := 11) (v := .ref (mP M)) hx hb hts in_X4 hown hT hI hR.1 rfl 1 (by decide) (hts (.fieldLink RX4 7 "CopyRowsModel" "places" "[I") (by decide +kernel)) rfl dX4_join_107 ?_
                refine lv_iload_n hx hb dX4_join_110 rfl (lv_at hl 3 rfl) ?_
                refine wr_ialdN (t := aj) (n := 12) (f := plF S) hx hb hT hI hR.2.1 (by omega) (by omega) dX4_join_111 ?_
                refine W.eq (g2 := F0 m 112 ls [.int (sPl S aj)]) (by rw [plF_at (by omega)]) ?_
                refine lv_istore (lv' := [(5, .int (sPl S aj)), (4, .int 5), (0, .ref (mH M)), (1, .int (nI pj)), (2, .int (nI aj)), (3, .int (nI bj))]) hx hb dX4_join_112 hl (by decide) rfl (fun ls hl => ?_)
                refine lv_aload_n hx hb dX4_join_114 rfl (lv_at hl 2 rfl) ?_
                refine wr_get (ci := 3) (C := RX4) (T := TX4) (N := 11) (v := .ref (mP M)) hx hb hts in_X4 hown hT hI hR.1 rfl 1 (by decide) (hts (.fieldLink RX4 7 "CopyRowsModel" "places" "[I") (by decide +kernel)) rfl dX4_join_115 ?_
                refine lv_iload_n hx hb dX4_join_118 rfl (lv_at hl 5 rfl) ?_
                refine wr_ialdN (t := bj) (n := 12) (f := plF S) hx hb hT hI hR.2.1 (by omega) (by omega) dX4_join_119 ?_
                refine W.eq (g2 := F0 m 120 ls [.int (sPl S bj)]) (by rw [plF_at (by omega)]) ?_
                refine lv_istore (lv' := [(6, .int (sPl S bj)), (5, .int (sPl S aj)), (4, .int 5), (0, .ref (mH M)), (1, .int (nI pj)), (2, .int (nI aj)), (3, .int (nI bj))]) hx hb dX4_join_120 hl (by decide) rfl (fun ls hl => ?_)
                refine lv_iconst (v := 0) hx hb dX4_join_122 (by decide) ?_
                refine lv_istore (lv' := [(7, .int 0), (6, .int (sPl S bj)), (5, .int (sPl S aj)), (4, .int 5), (0, .ref (mH M)), (1, .int (nI pj)), (2, .int (nI aj)), (3, .int (nI bj))]) hx hb dX4_join_123 hl (by decide) rfl (fun ls hl => ?_)
                refine lv_iload hx hb dX4_join_125 (lv_at hl 3 rfl) ?_
                refine lv_if_ne (tgt := 195) hx hb dX4_join_127 (by decide) (fun _ => ?_) (fun c => absurd c (by decide))
                refine lv_iload hx hb dX4_join_195 (lv_at hl 3 rfl) ?_
                refine lv_if_eq (tgt := 207) hx hb dX4_join_197 (by decide) (fun c => absurd c (by decide)) (fun _ => ?_)
                refine lv_aload_n hx hb dX4_join_200 rfl (lv_at hl 4 rfl) ?_
                refine lv_iload hx hb dX4_join_201 (lv_at hl 3 rfl) ?_
                refine ca_V (As := [.int 5]) (rest := []) (r0 := (RX4, TX4, 11)) (ci := 3) ⟨hx, hb, hml, hown, hts⟩ (cc_X4_no l E A _ 5 hR) (cwV 1 hts gX4_join_X4_no rfl rfl rfl (by decide +kernel) ⟨(Nat.le_of_ble_eq_true rfl), (Nat.le_of_ble_eq_true rfl)⟩) hT hI hA hS rfl hR.1 rfl rfl hl.1 (Nat.le_of_ble_eq_true rfl) dX4_join_203 ⟨(Nat.le_of_ble_eq_true rfl), (Nat.le_of_ble_eq_true rfl)⟩ (fun r w_28 H locs hp_27 hI hS => ?_)
                obtain ⟨rfl, hR⟩ := hp_27
                refine W.eq (g2 := F0 m 206 ls [.int 0]) rfl ?_
                exact re_i hx hb hr hlocks hT hA hS hI (PoM.of (by
                                    unfold sp_join
                                    try simp only [pv_nI hpj, pv_nI haj, pv_nI hbj]
                                    rw [if_neg ((fun q => q.elim ho_3 (fun q => q.elim ho_6 ho_9))), if_neg (fun q9 => q9.elim c_10 c_13), if_pos (Or.inr e626)]) hR) (Nat.le_of_ble_eq_true rfl) (Nat.le_of_ble_eq_true rfl) dX4_join_206
              · have hln26 := hW.ln (Or.inl hr26)
                refine W.eq (g2 := F0 m 58 ls [.int 0, .int 0]) rfl ?_
                refine lv_iadd hx hb dX4_join_58 ?_
                refine W.eq (g2 := F0 m 59 ls [.int 0]) rfl ?_
                refine lv_if_le (tgt := 66) hx hb dX4_join_59 (by decide) (fun _ => ?_) (fun c => absurd c (by decide))
                refine lv_iconst (v := 0) hx hb dX4_join_66 (by decide) ?_
                refine lv_istore (lv' := [(4, .int 0), (0, .ref (mH M)), (1, .int (nI pj)), (2, .int (nI aj)), (3, .int (nI bj))]) hx hb dX4_join_67 hl (by decide) rfl (fun ls hl => ?_)
                refine lv_iload hx hb dX4_join_69 (lv_at hl 0 rfl) ?_
                refine lv_if_ne (tgt := 93) hx hb dX4_join_71 (by decide) (fun c => absurd c (by decide)) (fun _ => ?_)
                refine lv_aload_n hx hb dX4_join_74 rfl (lv_at hl 1 rfl) ?_
                refine lv_iload_n hx hb dX4_join_75 rfl (lv_at hl 3 rfl) ?_
                refine ca_V (As := [.int (nI aj)]) (rest := []) (r0 := (RX4, TX4, 11)) (ci := 3) ⟨hx, hb, hml, hown, hts⟩ (cc_X4_lengthOf l E A _ (by omega) hW hR hr16) (cwV 1 hts gX4_join_X4_lengthOf rfl rfl rfl (by decide +kernel) ⟨(Nat.le_of_ble_eq_true rfl), (Nat.le_of_ble_eq_true rfl)⟩) hT hI hA hS rfl hR.1 rfl rfl hl.1 (Nat.le_of_ble_eq_true rfl) dX4_join_76 ⟨(Nat.le_of_ble_eq_true rfl), (Nat.le_of_ble_eq_true rfl)⟩ (fun r w_30 H locs hp_29 hI hS => ?_)
                obtain ⟨rfl, rfl⟩ := hp_29
                refine W.eq (g2 := F0 m 79 ls [.int (nI (lnv S (sPl S aj)))]) rfl ?_
                refine lv_aload_n hx hb dX4_join_79 rfl (lv_at hl 1 rfl) ?_
                refine lv_iload_n hx hb dX4_join_80 rfl (lv_at hl 4 rfl) ?_
                refine ca_V (As := [.int (nI bj)]) (rest := [.int (nI (lnv S (sPl S aj)))]) (r0 := (RX4, TX4, 11)) (ci := 3) ⟨hx, hb, hml, hown, hts⟩ (cc_X4_lengthOf l E A _ (by omega) hW hR hr26) (cwV 1 hts gX4_join_X4_lengthOf rfl rfl rfl (by decide +kernel) ⟨(Nat.le_of_ble_eq_true rfl), (Nat.le_of_ble_eq_true rfl)⟩) hT hI hA hS rfl hR.1 rfl rfl hl.1 (Nat.le_of_ble_eq_true rfl) dX4_join_81 ⟨(Nat.le_of_ble_eq_true rfl), (Nat.le_of_ble_eq_true rfl)⟩ (fun r w_32 H locs hp_31 hI hS => ?_)
                obtain ⟨rfl, rfl⟩ := hp_31
                refine W.eq (g2 := F0 m 84 ls [.int (nI (lnv S (sPl S bj))), .int (nI (lnv S (sPl S aj)))]) rfl ?_
                refine lv_iadd hx hb dX4_join_84 ?_
                refine W.eq (g2 := F0 m 85 ls [.int (nI ((lnv S (sPl S aj)) + (lnv S (sPl S bj))))]) (by rw [show (nI (lnv S (sPl S aj)) : Int32) + nI (lnv S (sPl S bj)) = nI ((lnv S (sPl S aj)) + (lnv S (sPl S bj))) from nI_add (lnv S (sPl S aj)) (lnv S (sPl S bj))]) ?_
                refine lv_bipush (v := 40) hx hb dX4_join_85 (by decide) ?_
                refine lv_icmp_le (tgt := 93) hx hb dX4_join_87 (by decide) (fun c_33 => ?_) (fun c_33 => ?_)
                · have c_33 : (lnv S (sPl S aj)) + (lnv S (sPl S bj)) ≤ 40 := (nI_leI (a := (lnv S (sPl S aj)) + (lnv S (sPl S bj))) (b := 40) (by omega) (by omega)).mp c_33
                  refine lv_iload hx hb dX4_join_93 (lv_at hl 0 rfl) ?_
                  refine lv_if_ne (tgt := 106) hx hb dX4_join_95 (by decide) (fun c => absurd c (by decide)) (fun _ => ?_)
                  refine lv_aload_n hx hb dX4_join_98 rfl (lv_at hl 1 rfl) ?_
                  refine lv_iload_n hx hb dX4_join_99 rfl (lv_at hl 4 rfl) ?_
                  refine lv_iload_n hx hb dX4_join_100 rfl (lv_at hl 3 rfl) ?_
                  refine ca_V (As := [.int (nI bj), .int (nI aj)]) (rest := []) (r0 := (RX4, TX4, 11)) (ci := 3) ⟨hx, hb, hml, hown, hts⟩ (cc_X4_unlike l E A _ (i9 := bj) (j9 := aj) (by omega) (by omega) hW hR) (cwV 2 hts gX4_join_X4_unlike rfl rfl rfl (by decide +kernel) ⟨(Nat.le_of_ble_eq_true rfl), (Nat.le_of_ble_eq_true rfl)⟩) hT hI hA hS rfl hR.1 rfl rfl hl.1 (Nat.le_of_ble_eq_true rfl) dX4_join_101 ⟨(Nat.le_of_ble_eq_true rfl), (Nat.le_of_ble_eq_true rfl)⟩ (fun r w_35 H locs hp_34 hI hS => ?_)
                  obtain ⟨rfl, ⟨hul, rfl⟩ | ⟨hul, hm, rfl⟩ | ⟨hul, hm, rfl⟩⟩ := hp_34
                  · exact (hul.elim c_13 c_10).elim
                  · refine W.eq (g2 := F0 m 104 ls [.int 2]) rfl ?_
                    refine lv_istore (lv' := [(4, .int 2), (0, .ref (mH M)), (1, .int (nI pj)), (2, .int (nI aj)), (3, .int (nI bj))]) hx hb dX4_join_104 hl (by decide) rfl (fun ls hl => ?_)
                    refine lv_aload_n hx hb dX4_join_106 rfl (lv_at hl 1 rfl) ?_
                    refine wr_get (ci := 3) (C := RX4) (T := TX4) (N := 11) (v := .ref (mP M)) hx hb hts in_X4 hown hT hI hR.1 rfl 1 (by decide) (hts (.fieldLink RX4 7 "CopyRowsModel" "places" "[I") (by decide +kernel)) rfl dX4_join_107 ?_
                    refine lv_iload_n hx hb dX4_join_110 rfl (lv_at hl 3 rfl) ?_
                    refine wr_ialdN (t := aj) (n := 12) (f := plF S) hx hb hT hI hR.2.1 (by omega) (by omega) dX4_join_111 ?_
                    refine W.eq (g2 := F0 m 112 ls [.int (sPl S aj)]) (by rw [plF_at (by omega)]) ?_
                    refine lv_istore (lv' := [(5, .int (sPl S aj)), (4, .int 2), (0, .ref (mH M)), (1, .int (nI pj)), (2, .int (nI aj)), (3, .int (nI bj))]) hx hb dX4_join_112 hl (by decide) rfl (fun ls hl => ?_)
                    refine lv_aload_n hx hb dX4_join_114 rfl (lv_at hl 2 rfl) ?_
                    refine wr_get (ci := 3) (C := RX4) (T := TX4) (N := 11) (v := .ref (mP M)) hx hb hts in_X4 hown hT hI hR.1 rfl 1 (by decide) (hts (.fieldLink RX4 7 "CopyRowsModel" "places" "[I") (by decide +kernel)) rfl dX4_join_115 ?_
                    refine lv_iload_n hx hb dX4_join_118 rfl (lv_at hl 5 rfl) ?_
                    refine wr_ialdN (t := bj) (n := 12) (f := plF S) hx hb hT hI hR.2.1 (by omega) (by omega) dX4_join_119 ?_
                    refine W.eq (g2 := F0 m 120 ls [.int (sPl S bj)]) (by rw [plF_at (by omega)]) ?_
                    refine lv_istore (lv' := [(6, .int (sPl S bj)), (5, .int (sPl S aj)), (4, .int 2), (0, .ref (mH M)), (1, .int (nI pj)), (2, .int (nI aj)), (3, .int (nI bj))]) hx hb dX4_join_120 hl (by decide) rfl (fun ls hl => ?_)
                    refine lv_iconst (v := 0) hx hb dX4_join_122 (by decide) ?_
                    refine lv_istore (lv' := [(7, .int 0), (6, .int (sPl S bj)), (5, .int (sPl S aj)), (4, .int 2), (0, .ref (mH M)), (1, .int (nI pj)), (2, .int (nI aj)), (3, .int (nI bj))]) hx hb dX4_join_123 hl (by decide) rfl (fun ls hl => ?_)
                    refine lv_iload hx hb dX4_join_125 (lv_at hl 3 rfl) ?_
                    refine lv_if_ne (tgt := 195) hx hb dX4_join_127 (by decide) (fun _ => ?_) (fun c => absurd c (by decide))
                    refine lv_iload hx hb dX4_join_195 (lv_at hl 3 rfl) ?_
                    refine lv_if_eq (tgt := 207) hx hb dX4_join_197 (by decide) (fun c => absurd c (by decide)) (fun _ => ?_)
                    refine lv_aload_n hx hb dX4_join_200 rfl (lv_at hl 4 rfl) ?_
                    refine lv_iload hx hb dX4_join_201 (lv_at hl 3 rfl) ?_
                    refine ca_V (As := [.int 2]) (rest := []) (r0 := (RX4, TX4, 11)) (ci := 3) ⟨hx, hb, hml, hown, hts⟩ (cc_X4_no l E A _ 2 hR) (cwV 1 hts gX4_join_X4_no rfl rfl rfl (by decide +kernel) ⟨(Nat.le_of_ble_eq_true rfl), (Nat.le_of_ble_eq_true rfl)⟩) hT hI hA hS rfl hR.1 rfl rfl hl.1 (Nat.le_of_ble_eq_true rfl) dX4_join_203 ⟨(Nat.le_of_ble_eq_true rfl), (Nat.le_of_ble_eq_true rfl)⟩ (fun r w_37 H locs hp_36 hI hS => ?_)
                    obtain ⟨rfl, hR⟩ := hp_36
                    refine W.eq (g2 := F0 m 206 ls [.int 0]) rfl ?_
                    exact re_i hx hb hr hlocks hT hA hS hI (PoM.of (by
                                            unfold sp_join
                                            try simp only [pv_nI hpj, pv_nI haj, pv_nI hbj]
                                            rw [if_neg ((fun q => q.elim ho_3 (fun q => q.elim ho_6 ho_9))), if_neg (fun q9 => q9.elim c_10 c_13), if_neg (fun q9 => q9.elim (row_kd hW hr16) (row_kd hW hr26)), if_neg (not_not_intro c_33), if_pos (Or.inl hm)]) hR) (Nat.le_of_ble_eq_true rfl) (Nat.le_of_ble_eq_true rfl) dX4_join_206
                  · refine W.eq (g2 := F0 m 104 ls [.int 0]) rfl ?_
                    refine lv_istore (lv' := [(4, .int 0), (0, .ref (mH M)), (1, .int (nI pj)), (2, .int (nI aj)), (3, .int (nI bj))]) hx hb dX4_join_104 hl (by decide) rfl (fun ls hl => ?_)
                    refine lv_aload_n hx hb dX4_join_106 rfl (lv_at hl 1 rfl) ?_
                    refine wr_get (ci := 3) (C := RX4) (T := TX4) (N := 11) (v := .ref (mP M)) hx hb hts in_X4 hown hT hI hR.1 rfl 1 (by decide) (hts (.fieldLink RX4 7 "CopyRowsModel" "places" "[I") (by decide +kernel)) rfl dX4_join_107 ?_
                    refine lv_iload_n hx hb dX4_join_110 rfl (lv_at hl 3 rfl) ?_
                    refine wr_ialdN (t := aj) (n := 12) (f := plF S) hx hb hT hI hR.2.1 (by omega) (by omega) dX4_join_111 ?_
                    refine W.eq (g2 := F0 m 112 ls [.int (sPl S aj)]) (by rw [plF_at (by omega)]) ?_
                    refine lv_istore (lv' := [(5, .int (sPl S aj)), (4, .int 0), (0, .ref (mH M)), (1, .int (nI pj)), (2, .int (nI aj)), (3, .int (nI bj))]) hx hb dX4_join_112 hl (by decide) rfl (fun ls hl => ?_)
                    refine lv_aload_n hx hb dX4_join_114 rfl (lv_at hl 2 rfl) ?_
                    refine wr_get (ci := 3) (C := RX4) (T := TX4) (N := 11) (v := .ref (mP M)) hx hb hts in_X4 hown hT hI hR.1 rfl 1 (by decide) (hts (.fieldLink RX4 7 "CopyRowsModel" "places" "[I") (by decide +kernel)) rfl dX4_join_115 ?_
                    refine lv_iload_n hx hb dX4_join_118 rfl (lv_at hl 5 rfl) ?_
                    refine wr_ialdN (t := bj) (n := 12) (f := plF S) hx hb hT hI hR.2.1 (by omega) (by omega) dX4_join_119 ?_
                    refine W.eq (g2 := F0 m 120 ls [.int (sPl S bj)]) (by rw [plF_at (by omega)]) ?_
                    refine lv_istore (lv' := [(6, .int (sPl S bj)), (5, .int (sPl S aj)), (4, .int 0), (0, .ref (mH M)), (1, .int (nI pj)), (2, .int (nI aj)), (3, .int (nI bj))]) hx hb dX4_join_120 hl (by decide) rfl (fun ls hl => ?_)
                    refine lv_iconst (v := 0) hx hb dX4_join_122 (by decide) ?_
                    refine lv_istore (lv' := [(7, .int 0), (6, .int (sPl S bj)), (5, .int (sPl S aj)), (4, .int 0), (0, .ref (mH M)), (1, .int (nI pj)), (2, .int (nI aj)), (3, .int (nI bj))]) hx hb dX4_join_123 hl (by decide) rfl (fun ls hl => ?_)
                    have hra := hr16
                    have hrb := hr26
                    refine lp_w (ι := Nat) (fun t => lnv S (sPl S bj) - t) (fun t H locs ls => (t ≤ lnv S (sPl S bj) ∧ ∀ k, k < t → isN (kdv S (sPl S aj)) ∨ fitS S (kdv S (sPl S bj)) (itv S (sPl S bj) (0 + k)) (kdv S (sPl S aj))) ∧ Hv E A w H ∧ va_S A s.heap H locs ∧ lv_has ls 9 [(0, .ref (mH M)), (1, .int (nI pj)), (4, .int 0), (5, .int (sPl S aj)), (6, .int (sPl S bj)), (7, .int (nI t))]) ?_ 0 _ _ _ ⟨⟨Nat.zero_le _, fun k h9 => absurd h9 (Nat.not_lt_zero _)⟩, hI, hS, lv_sub hl [4, 5, 3, 2, 1, 0] rfl⟩
                    rintro t H locs ls ⟨⟨ht, hfa⟩, hI, hS, hl⟩ ih
                    refine lv_iload hx hb dX4_join_125 (lv_at hl 2 rfl) ?_
                    refine lv_if_ne (tgt := 195) hx hb dX4_join_127 (by decide) (fun c => absurd c (by decide)) (fun _ => ?_)
                    refine lv_iload hx hb dX4_join_130 (lv_at hl 5 rfl) ?_
                    refine lv_aload_n hx hb dX4_join_132 rfl (lv_at hl 0 rfl) ?_
                    refine wr_get (ci := 3) (C := RX4) (T := TX4) (N := 11) (v := .ref (mL M)) hx hb hts in_X4 hown hT hI hR.1 rfl 4 (by decide) (hts (.fieldLink RX4 16 "CopyRowsModel" "lengths" "[I") (by decide +kernel)) rfl dX4_join_133 ?_
                    refine lv_iload hx hb dX4_join_136 (lv_at hl 4 rfl) ?_
                    refine W.eq (g2 := F0 m 138 ls [.int (nI (ix (sPl S bj))), .ref (mL M), .int (nI t)]) (by rw [nI_ix hrb.1]) ?_
                    refine wr_ialdN (t := ix (sPl S bj)) (n := 520) (f := lnF S) hx hb hT hI hR.2.2.2.1 (by have h9 := hrb.2; have h8 := hW.2.2.2; omega) (by omega) dX4_join_138 ?_
                    refine W.eq (g2 := F0 m 139 ls [.int (nI (lnv S (sPl S bj))), .int (nI t)]) (by rw [lnv_r hrb]; rfl) ?_
                    refine lv_icmp_ge (tgt := 195) hx hb dX4_join_139 (by decide) (fun c_38 => ?_) (fun c_38 => ?_)
                    · have c_38 : lnv S (sPl S bj) ≤ t := (nI_leI (a := lnv S (sPl S bj)) (b := t) (by omega) (by omega)).mp c_38
                      refine lv_iload hx hb dX4_join_195 (lv_at hl 2 rfl) ?_
                      refine lv_if_eq (tgt := 207) hx hb dX4_join_197 (by decide) (fun _ => ?_) (fun c => absurd c (by decide))
                      have hfb : ∀ k, k < lnv S (sPl S bj) → isN (kdv S (sPl S aj)) ∨ fitS S (kdv S (sPl S bj)) (itv S (sPl S bj) (0 + k)) (kdv S (sPl S aj)) := fun k h9 => hfa k (by omega)
                      clear ih
                      refine lv_aload_n hx hb dX4_join_207 rfl (lv_at hl 0 rfl) ?_
                      refine lv_aload_n hx hb dX4_join_208 rfl (lv_at hl 0 rfl) ?_
                      refine wr_get (ci := 3) (C := RX4) (T := TX4) (N := 11) (v := .ref (mK M)) hx hb hts in_X4 hown hT hI hR.1 rfl 3 (by decide) (hts (.fieldLink RX4 13 "CopyRowsModel" "kinds" "[I") (by decide +kernel)) rfl dX4_join_209 ?_
                      refine lv_iload hx hb dX4_join_212 (lv_at hl 3 rfl) ?_
                      refine W.eq (g2 := F0 m 214 ls [.int (nI (ix (sPl S aj))), .ref (mK M), .ref (mH M)]) (by rw [nI_ix hra.1]) ?_
                      refine wr_ialdN (t := ix (sPl S aj)) (n := 520) (f := sKd S) hx hb hT hI hR.2.2.1 (by have h9 := hra.2; have h8 := hW.2.2.2; omega) (by omega) dX4_join_214 ?_
                      refine W.eq (g2 := F0 m 215 ls [.int (kdv S (sPl S aj)), .ref (mH M)]) (by rw [kdv_r hra]) ?_
                      refine lv_aload_n hx hb dX4_join_215 rfl (lv_at hl 0 rfl) ?_
                      refine wr_get (ci := 3) (C := RX4) (T := TX4) (N := 11) (v := .ref (mL M)) hx hb hts in_X4 hown hT hI hR.1 rfl 4 (by decide) (hts (.fieldLink RX4 16 "CopyRowsModel" "lengths" "[I") (by decide +kernel)) rfl dX4_join_216 ?_
                      refine lv_iload hx hb dX4_join_219 (lv_at hl 3 rfl) ?_
                      refine W.eq (g2 := F0 m 221 ls [.int (nI (ix (sPl S aj))), .ref (mL M), .int (kdv S (sPl S aj)), .ref (mH M)]) (by rw [nI_ix hra.1]) ?_
                      refine wr_ialdN (t := ix (sPl S aj)) (n := 520) (f := lnF S) hx hb hT hI hR.2.2.2.1 (by have h9 := hra.2; have h8 := hW.2.2.2; omega) (by omega) dX4_join_221 ?_
                      refine W.eq (g2 := F0 m 222 ls [.int (nI (lnv S (sPl S aj))), .int (kdv S (sPl S aj)), .ref (mH M)]) (by rw [lnv_r hra]; rfl) ?_
                      refine lv_aload_n hx hb dX4_join_222 rfl (lv_at hl 0 rfl) ?_
                      refine wr_get (ci := 3) (C := RX4) (T := TX4) (N := 11) (v := .ref (mL M)) hx hb hts in_X4 hown hT hI hR.1 rfl 4 (by decide) (hts (.fieldLink RX4 16 "CopyRowsModel" "lengths" "[I") (by decide +kernel)) rfl dX4_join_223 ?_
                      refine lv_iload hx hb dX4_join_226 (lv_at hl 4 rfl) ?_
                      refine W.eq (g2 := F0 m 228 ls [.int (nI (ix (sPl S bj))), .ref (mL M), .int (nI (lnv S (sPl S aj))), .int (kdv S (sPl S aj)), .ref (mH M)]) (by rw [nI_ix hrb.1]) ?_
                      refine wr_ialdN (t := ix (sPl S bj)) (n := 520) (f := lnF S) hx hb hT hI hR.2.2.2.1 (by have h9 := hrb.2; have h8 := hW.2.2.2; omega) (by omega) dX4_join_228 ?_
                      refine W.eq (g2 := F0 m 229 ls [.int (nI (lnv S (sPl S bj))), .int (nI (lnv S (sPl S aj))), .int (kdv S (sPl S aj)), .ref (mH M)]) (by rw [lnv_r hrb]; rfl) ?_
                      refine lv_iadd hx hb dX4_join_229 ?_
                      refine W.eq (g2 := F0 m 230 ls [.int (nI ((lnv S (sPl S aj)) + (lnv S (sPl S bj)))), .int (kdv S (sPl S aj)), .ref (mH M)]) (by rw [show (nI (lnv S (sPl S aj)) : Int32) + nI (lnv S (sPl S bj)) = nI ((lnv S (sPl S aj)) + (lnv S (sPl S bj))) from nI_add (lnv S (sPl S aj)) (lnv S (sPl S bj))]) ?_
                      refine ca_V (As := [.int (kdv S (sPl S aj)), .int (nI ((lnv S (sPl S aj)) + (lnv S (sPl S bj))))]) (rest := []) (r0 := (RX4, TX4, 11)) (ci := 3) ⟨hx, hb, hml, hown, hts⟩ (cc_X4_newRow l E A _ (kdv S (sPl S aj)) ((lnv S (sPl S aj)) + (lnv S (sPl S bj))) (lt2 (hW.kd (Or.inl hra))) (by omega) hR) (cwV 2 hts gX4_join_X4_newRow rfl rfl rfl (by decide +kernel) ⟨(Nat.le_of_ble_eq_true rfl), (Nat.le_of_ble_eq_true rfl)⟩) hT hI hA hS rfl hR.1 rfl rfl hl.1 (Nat.le_of_ble_eq_true rfl) dX4_join_230 ⟨(Nat.le_of_ble_eq_true rfl), (Nat.le_of_ble_eq_true rfl)⟩ (fun r w_40 H locs hp_39 hI hS => ?_)
                      obtain ⟨rfl, hR⟩ := hp_39
                      refine W.eq (g2 := F0 m 233 ls [.int (nI (sNr S))]) rfl ?_
                      refine lv_istore (lv' := [(7, .int (nI (sNr S))), (0, .ref (mH M)), (1, .int (nI pj)), (4, .int 0), (5, .int (sPl S aj)), (6, .int (sPl S bj))]) hx hb dX4_join_233 hl (by decide) rfl (fun ls hl => ?_)
                      refine lv_iconst (v := 0) hx hb dX4_join_235 (by decide) ?_
                      refine lv_istore (lv' := [(8, .int 0), (7, .int (nI (sNr S))), (0, .ref (mH M)), (1, .int (nI pj)), (4, .int 0), (5, .int (sPl S aj)), (6, .int (sPl S bj))]) hx hb dX4_join_236 hl (by decide) rfl (fun ls hl => ?_)
                      have hR : Rm E (uNew S (kdv S (sPl S aj)) (lnv S (sPl S aj) + lnv S (sPl S bj)) (va_cpy (itv S (sPl S aj)) (ini (kdv S (sPl S aj))) 0 0 0)) M tt w_40 := by rw [cpy_zero]; exact hR
                      refine lp_w (ι := Nat × Sx) (fun q9 => lnv S (sPl S aj) - q9.1) (fun q9 H locs ls => (q9.1 ≤ lnv S (sPl S aj) ∧ q9.2 = uNew S (kdv S (sPl S aj)) (lnv S (sPl S aj) + lnv S (sPl S bj)) (va_cpy (itv S (sPl S aj)) (ini (kdv S (sPl S aj))) 0 0 q9.1)) ∧ (∃ w9, Hv E A w9 H ∧ Rm E q9.2 M tt w9) ∧ va_S A s.heap H locs ∧ lv_has ls 9 [(0, .ref (mH M)), (1, .int (nI pj)), (5, .int (sPl S aj)), (6, .int (sPl S bj)), (7, .int (nI (sNr S))), (8, .int (nI q9.1))]) ?_ (0, uNew S (kdv S (sPl S aj)) (lnv S (sPl S aj) + lnv S (sPl S bj)) (va_cpy (itv S (sPl S aj)) (ini (kdv S (sPl S aj))) 0 0 0)) _ _ _ ⟨⟨Nat.zero_le _, rfl⟩, ⟨_, hI, hR⟩, hS, lv_sub hl [2, 3, 5, 6, 1, 0] rfl⟩
                      rintro ⟨t, T9⟩ H locs ls ⟨⟨ht, hT9⟩, ⟨w9, hI, hR⟩, hS, hl⟩ ih
                      dsimp only at ht hT9 hR hl
                      have hra9 : vR T9 (sPl S aj) := by rw [hT9]; exact new_vr hra
                      have hrb9 : vR T9 (sPl S bj) := by rw [hT9]; exact new_vr hrb
                      have hla9 : lnv T9 (sPl S aj) = lnv S (sPl S aj) := by rw [hT9]; exact new_ln hra
                      have hlb9 : lnv T9 (sPl S bj) = lnv S (sPl S bj) := by rw [hT9]; exact new_ln hrb
                      have hnr9 : sNr T9 = sNr S + 1 := by rw [hT9]
                      refine lv_iload hx hb dX4_join_238 (lv_at hl 5 rfl) ?_
                      refine lv_aload_n hx hb dX4_join_240 rfl (lv_at hl 0 rfl) ?_
                      refine wr_get (ci := 3) (C := RX4) (T := TX4) (N := 11) (v := .ref (mL M)) hx hb hts in_X4 hown hT hI hR.1 rfl 4 (by decide) (hts (.fieldLink RX4 16 "CopyRowsModel" "lengths" "[I") (by decide +kernel)) rfl dX4_join_241 ?_
                      refine lv_iload hx hb dX4_join_244 (lv_at hl 2 rfl) ?_
                      refine W.eq (g2 := F0 m 246 ls [.int (nI (ix (sPl S aj))), .ref (mL M), .int (nI t)]) (by rw [nI_ix hra9.1]) ?_
                      refine wr_ialdN (t := ix (sPl S aj)) (n := 520) (f := lnF T9) hx hb hT hI hR.2.2.2.1 (by have h9 := hra9.2; have h8 := hW.2.2.2; omega) (by omega) dX4_join_246 ?_
                      refine W.eq (g2 := F0 m 247 ls [.int (nI (lnv T9 (sPl S aj))), .int (nI t)]) (by rw [lnv_r hra9]; rfl) ?_
                      refine lv_icmp_ge (tgt := 272) hx hb dX4_join_247 (by decide) (fun c_41 => ?_) (fun c_41 => ?_)
                      · have c_41 : lnv T9 (sPl S aj) ≤ t := (nI_leI (a := lnv T9 (sPl S aj)) (b := t) (by omega) (by omega)).mp c_41
                        refine lv_iconst (v := 0) hx hb dX4_join_272 (by decide) ?_
                        refine lv_istore (lv' := [(8, .int 0), (0, .ref (mH M)), (1, .int (nI pj)), (5, .int (sPl S aj)), (6, .int (sPl S bj)), (7, .int (nI (sNr S)))]) hx hb dX4_join_273 hl (by decide) rfl (fun ls hl => ?_)
                        rw [show t = lnv S (sPl S aj) by omega] at hT9
                        subst hT9
                        have hR : Rm E (uNew S (kdv S (sPl S aj)) (lnv S (sPl S aj) + lnv S (sPl S bj)) (va_cpy (itv S (sPl S bj)) (va_cpy (itv S (sPl S aj)) (ini (kdv S (sPl S aj))) 0 0 (lnv S (sPl S aj))) 0 (lnv S (sPl S aj)) 0)) M tt w9 := by rw [cpy_zero]; exact hR
                        clear ih
                        refine lp_w (ι := Nat × Sx) (fun q9 => lnv S (sPl S bj) - q9.1) (fun q9 H locs ls => (q9.1 ≤ lnv S (sPl S bj) ∧ q9.2 = uNew S (kdv S (sPl S aj)) (lnv S (sPl S aj) + lnv S (sPl S bj)) (va_cpy (itv S (sPl S bj)) (va_cpy (itv S (sPl S aj)) (ini (kdv S (sPl S aj))) 0 0 (lnv S (sPl S aj))) 0 (lnv S (sPl S aj)) q9.1)) ∧ (∃ w9, Hv E A w9 H ∧ Rm E q9.2 M tt w9) ∧ va_S A s.heap H locs ∧ lv_has ls 9 [(0, .ref (mH M)), (1, .int (nI pj)), (5, .int (sPl S aj)), (6, .int (sPl S bj)), (7, .int (nI (sNr S))), (8, .int (nI q9.1))]) ?_ (0, uNew S (kdv S (sPl S aj)) (lnv S (sPl S aj) + lnv S (sPl S bj)) (va_cpy (itv S (sPl S bj)) (va_cpy (itv S (sPl S aj)) (ini (kdv S (sPl S aj))) 0 0 (lnv S (sPl S aj))) 0 (lnv S (sPl S aj)) 0)) _ _ _ ⟨⟨Nat.zero_le _, rfl⟩, ⟨_, hI, hR⟩, hS, lv_sub hl [1, 2, 3, 4, 5, 0] rfl⟩
                        rintro ⟨t, T9⟩ H locs ls ⟨⟨ht, hT9⟩, ⟨w9, hI, hR⟩, hS, hl⟩ ih
                        dsimp only at ht hT9 hR hl
                        have hra9 : vR T9 (sPl S aj) := by rw [hT9]; exact new_vr hra
                        have hrb9 : vR T9 (sPl S bj) := by rw [hT9]; exact new_vr hrb
                        have hla9 : lnv T9 (sPl S aj) = lnv S (sPl S aj) := by rw [hT9]; exact new_ln hra
                        have hlb9 : lnv T9 (sPl S bj) = lnv S (sPl S bj) := by rw [hT9]; exact new_ln hrb
                        have hnr9 : sNr T9 = sNr S + 1 := by rw [hT9]
                        refine lv_iload hx hb dX4_join_275 (lv_at hl 5 rfl) ?_
                        refine lv_aload_n hx hb dX4_join_277 rfl (lv_at hl 0 rfl) ?_
                        refine wr_get (ci := 3) (C := RX4) (T := TX4) (N := 11) (v := .ref (mL M)) hx hb hts in_X4 hown hT hI hR.1 rfl 4 (by decide) (hts (.fieldLink RX4 16 "CopyRowsModel" "lengths" "[I") (by decide +kernel)) rfl dX4_join_278 ?_
                        refine lv_iload hx hb dX4_join_281 (lv_at hl 3 rfl) ?_
                        refine W.eq (g2 := F0 m 283 ls [.int (nI (ix (sPl S bj))), .ref (mL M), .int (nI t)]) (by rw [nI_ix hrb9.1]) ?_
                        refine wr_ialdN (t := ix (sPl S bj)) (n := 520) (f := lnF T9) hx hb hT hI hR.2.2.2.1 (by have h9 := hrb9.2; have h8 := hW.2.2.2; omega) (by omega) dX4_join_283 ?_
                        refine W.eq (g2 := F0 m 284 ls [.int (nI (lnv T9 (sPl S bj))), .int (nI t)]) (by rw [lnv_r hrb9]; rfl) ?_
                        refine lv_icmp_ge (tgt := 317) hx hb dX4_join_284 (by decide) (fun c_42 => ?_) (fun c_42 => ?_)
                        · have c_42 : lnv T9 (sPl S bj) ≤ t := (nI_leI (a := lnv T9 (sPl S bj)) (b := t) (by omega) (by omega)).mp c_42
                          refine lv_aload_n hx hb dX4_join_317 rfl (lv_at hl 0 rfl) ?_
                          refine wr_get (ci := 3) (C := RX4) (T := TX4) (N := 11) (v := .ref (mP M)) hx hb hts in_X4 hown hT hI hR.1 rfl 1 (by decide) (hts (.fieldLink RX4 7 "CopyRowsModel" "places" "[I") (by decide +kernel)) rfl dX4_join_318 ?_
                          refine lv_iload_n hx hb dX4_join_321 rfl (lv_at hl 1 rfl) ?_
                          refine lv_iload hx hb dX4_join_322 (lv_at hl 4 rfl) ?_
                          refine wr_iastN (t := pj) (n := 12) (f := plF T9) hx hb hT hI hS hR.2.1 (by omega) (by omega) dX4_join_324 (fun H locs hI hS => ?_)
                          have hR := hR.pl (j := pj) (by omega) (nI (sNr S))
                          refine lv_aload_n hx hb dX4_join_325 rfl (lv_at hl 0 rfl) ?_
                          refine lv_aload_n hx hb dX4_join_326 rfl (lv_at hl 0 rfl) ?_
                          refine wr_get (ci := 3) (C := RX4) (T := TX4) (N := 11) (v := .ref (mL M)) hx hb hts in_X4 hown hT hI hR.1 rfl 4 (by decide) (hts (.fieldLink RX4 16 "CopyRowsModel" "lengths" "[I") (by decide +kernel)) rfl dX4_join_327 ?_
                          refine lv_iload hx hb dX4_join_330 (lv_at hl 4 rfl) ?_
                          refine wr_ialdN (t := sNr S) (n := 520) (f := lnF T9) hx hb hT hI hR.2.2.2.1 (by omega) (by omega) dX4_join_332 ?_
                          refine W.eq (g2 := F0 m 333 ls [.int (nI (sLn T9 (sNr S))), .ref (mH M)]) rfl ?_
                          have hln9 : sLn T9 (sNr S) = (lnv S (sPl S aj) + lnv S (sPl S bj)) := by rw [hT9]; exact new_sl
                          refine W.eq (g2 := F0 m 333 ls [.int (nI (lnv S (sPl S aj) + lnv S (sPl S bj))), .ref (mH M)]) (by rw [← hln9]) ?_
                          refine ca_V (As := [.int (nI (lnv S (sPl S aj) + lnv S (sPl S bj)))]) (rest := []) (r0 := (RX4, TX4, 11)) (ci := 3) ⟨hx, hb, hml, hown, hts⟩ (cc_X4_yes l E A _ (nI (lnv S (sPl S aj) + lnv S (sPl S bj))) hR) (cwV 1 hts gX4_join_X4_yes rfl rfl rfl (by decide +kernel) ⟨(Nat.le_of_ble_eq_true rfl), (Nat.le_of_ble_eq_true rfl)⟩) hT hI hA hS rfl hR.1 rfl rfl hl.1 (Nat.le_of_ble_eq_true rfl) dX4_join_333 ⟨(Nat.le_of_ble_eq_true rfl), (Nat.le_of_ble_eq_true rfl)⟩ (fun r w_44 H locs hp_43 hI hS => ?_)
                          obtain ⟨rfl, hR⟩ := hp_43
                          refine W.eq (g2 := F0 m 336 ls [.int (nI (lnv S (sPl S aj) + lnv S (sPl S bj)))]) rfl ?_
                          exact re_i hx hb hr hlocks hT hA hS hI (PoM.of (by
                                                        unfold sp_join
                                                        try simp only [pv_nI hpj, pv_nI haj, pv_nI hbj]
                                                        rw [if_neg ((fun q => q.elim ho_3 (fun q => q.elim ho_6 ho_9))), if_neg (fun q9 => q9.elim c_10 c_13), if_neg (fun q9 => q9.elim (row_kd hW hr16) (row_kd hW hr26)), if_neg (not_not_intro c_33), if_neg (fun q9 => q9.elim (not_not_intro hm) (fun q9 => by rw [mvN_all hfb] at q9; omega))]
                                                        rw [ix_nI (show pj < 2 ^ 31 by omega), hT9, show t = lnv S (sPl S bj) by omega]) hR) (Nat.le_of_ble_eq_true rfl) (Nat.le_of_ble_eq_true rfl) dX4_join_336
                        · have c_42 : ¬ lnv T9 (sPl S bj) ≤ t := fun q => c_42 ((nI_leI (a := lnv T9 (sPl S bj)) (b := t) (by omega) (by omega)).mpr q)
                          refine lv_aload_n hx hb dX4_join_287 rfl (lv_at hl 0 rfl) ?_
                          refine lv_iload hx hb dX4_join_288 (lv_at hl 4 rfl) ?_
                          refine lv_aload_n hx hb dX4_join_290 rfl (lv_at hl 0 rfl) ?_
                          refine wr_get (ci := 3) (C := RX4) (T := TX4) (N := 11) (v := .ref (mL M)) hx hb hts in_X4 hown hT hI hR.1 rfl 4 (by decide) (hts (.fieldLink RX4 16 "CopyRowsModel" "lengths" "[I") (by decide +kernel)) rfl dX4_join_291 ?_
                          refine lv_iload hx hb dX4_join_294 (lv_at hl 2 rfl) ?_
                          refine W.eq (g2 := F0 m 296 ls [.int (nI (ix (sPl S aj))), .ref (mL M), .int (nI (sNr S)), .ref (mH M)]) (by rw [nI_ix hra9.1]) ?_
                          refine wr_ialdN (t := ix (sPl S aj)) (n := 520) (f := lnF T9) hx hb hT hI hR.2.2.2.1 (by have h9 := hra9.2; have h8 := hW.2.2.2; omega) (by omega) dX4_join_296 ?_
                          refine W.eq (g2 := F0 m 297 ls [.int (nI (lnv T9 (sPl S aj))), .int (nI (sNr S)), .ref (mH M)]) (by rw [lnv_r hra9]; rfl) ?_
                          refine lv_iload hx hb dX4_join_297 (lv_at hl 5 rfl) ?_
                          refine lv_iadd hx hb dX4_join_299 ?_
                          refine W.eq (g2 := F0 m 300 ls [.int (nI ((lnv T9 (sPl S aj)) + t)), .int (nI (sNr S)), .ref (mH M)]) (by rw [show (nI (lnv T9 (sPl S aj)) : Int32) + nI t = nI ((lnv T9 (sPl S aj)) + t) from nI_add (lnv T9 (sPl S aj)) t]) ?_
                          refine lv_aload_n hx hb dX4_join_300 rfl (lv_at hl 0 rfl) ?_
                          refine lv_iload hx hb dX4_join_301 (lv_at hl 3 rfl) ?_
                          refine lv_iload hx hb dX4_join_303 (lv_at hl 5 rfl) ?_
                          refine ca_V (As := [.int (sPl S bj), .int (nI t)]) (rest := [.int (nI ((lnv T9 (sPl S aj)) + t)), .int (nI (sNr S)), .ref (mH M)]) (r0 := (RX4, TX4, 11)) (ci := 3) ⟨hx, hb, hml, hown, hts⟩ (cM_get l E A _ (S := T9) hrb9 (by omega) (by omega) hR) (cwV 2 hts gX4_join_X4_get rfl rfl rfl (by decide +kernel) ⟨(Nat.le_of_ble_eq_true rfl), (Nat.le_of_ble_eq_true rfl)⟩) hT hI hA hS rfl hR.1 rfl rfl hl.1 (Nat.le_of_ble_eq_true rfl) dX4_join_305 ⟨(Nat.le_of_ble_eq_true rfl), (Nat.le_of_ble_eq_true rfl)⟩ (fun r w_46 H locs hp_45 hI hS => ?_)
                          obtain ⟨rfl, rfl⟩ := hp_45
                          rw [show itv T9 (sPl S bj) t = itv S (sPl S bj) t from by rw [hT9, new_it hrb]]
                          refine W.eq (g2 := F0 m 308 ls [.int (itv S (sPl S bj) t), .int (nI ((lnv T9 (sPl S aj)) + t)), .int (nI (sNr S)), .ref (mH M)]) rfl ?_
                          refine ca_V (As := [.int (nI (sNr S)), .int (nI ((lnv T9 (sPl S aj)) + t)), .int (itv S (sPl S bj) t)]) (rest := []) (r0 := (RX4, TX4, 11)) (ci := 3) ⟨hx, hb, hml, hown, hts⟩ (cc_X4_put l E A _ (r9 := sNr S) (by omega) (by omega) (itv S (sPl S bj) t) hR) (cwV 3 hts gX4_join_X4_put rfl rfl rfl (by decide +kernel) ⟨(Nat.le_of_ble_eq_true rfl), (Nat.le_of_ble_eq_true rfl)⟩) hT hI hA hS rfl hR.1 rfl rfl hl.1 (Nat.le_of_ble_eq_true rfl) dX4_join_308 ⟨(Nat.le_of_ble_eq_true rfl), (Nat.le_of_ble_eq_true rfl)⟩ (fun r w_48 H locs hp_47 hI hS => ?_)
                          obtain ⟨rfl, hR⟩ := hp_47
                          refine W.eq (g2 := F0 m 311 ls []) rfl ?_
                          refine lv_iinc (v := nI (t + 1)) (lv' := [(8, .int (nI (t + 1))), (0, .ref (mH M)), (1, .int (nI pj)), (5, .int (sPl S aj)), (6, .int (sPl S bj)), (7, .int (nI (sNr S)))]) hx hb dX4_join_311 hl (k := 5) rfl (nI_1 _) (by decide) rfl (fun ls hl => ?_)
                          refine lv_goto (tgt := 275) hx hb dX4_join_314 (by decide) ?_
                          rw [hla9] at hR
                          have e9 : uRow T9 (sNr S) (upd (sIt T9 (sNr S)) (lnv S (sPl S aj) + t) (itv S (sPl S bj) t)) = uNew S (kdv S (sPl S aj)) (lnv S (sPl S aj) + lnv S (sPl S bj)) (va_cpy (itv S (sPl S bj)) (va_cpy (itv S (sPl S aj)) (ini (kdv S (sPl S aj))) 0 0 (lnv S (sPl S aj))) 0 (lnv S (sPl S aj)) (t + 1)) := by
                            rw [hT9, new_row, ← cpy_step]
                            simp only [Nat.zero_add]
                          rw [e9] at hR
                          exact ih (t + 1, uNew S (kdv S (sPl S aj)) (lnv S (sPl S aj) + lnv S (sPl S bj)) (va_cpy (itv S (sPl S bj)) (va_cpy (itv S (sPl S aj)) (ini (kdv S (sPl S aj))) 0 0 (lnv S (sPl S aj))) 0 (lnv S (sPl S aj)) (t + 1))) _ _ _ ⟨⟨by show t + 1 ≤ lnv S (sPl S bj); omega, rfl⟩, ⟨_, hI, hR⟩, hS, lv_sub hl [1, 2, 3, 4, 5, 0] rfl⟩ (by show lnv S (sPl S bj) - (t + 1) < lnv S (sPl S bj) - t; omega)
                      · have c_41 : ¬ lnv T9 (sPl S aj) ≤ t := fun q => c_41 ((nI_leI (a := lnv T9 (sPl S aj)) (b := t) (by omega) (by omega)).mpr q)
                        refine lv_aload_n hx hb dX4_join_250 rfl (lv_at hl 0 rfl) ?_
                        refine lv_iload hx hb dX4_join_251 (lv_at hl 4 rfl) ?_
                        refine lv_iload hx hb dX4_join_253 (lv_at hl 5 rfl) ?_
                        refine lv_aload_n hx hb dX4_join_255 rfl (lv_at hl 0 rfl) ?_
                        refine lv_iload hx hb dX4_join_256 (lv_at hl 2 rfl) ?_
                        refine lv_iload hx hb dX4_join_258 (lv_at hl 5 rfl) ?_
                        refine ca_V (As := [.int (sPl S aj), .int (nI t)]) (rest := [.int (nI t), .int (nI (sNr S)), .ref (mH M)]) (r0 := (RX4, TX4, 11)) (ci := 3) ⟨hx, hb, hml, hown, hts⟩ (cM_get l E A _ (S := T9) hra9 (by omega) (by omega) hR) (cwV 2 hts gX4_join_X4_get rfl rfl rfl (by decide +kernel) ⟨(Nat.le_of_ble_eq_true rfl), (Nat.le_of_ble_eq_true rfl)⟩) hT hI hA hS rfl hR.1 rfl rfl hl.1 (Nat.le_of_ble_eq_true rfl) dX4_join_260 ⟨(Nat.le_of_ble_eq_true rfl), (Nat.le_of_ble_eq_true rfl)⟩ (fun r w_50 H locs hp_49 hI hS => ?_)
                        obtain ⟨rfl, rfl⟩ := hp_49
                        rw [show itv T9 (sPl S aj) t = itv S (sPl S aj) t from by rw [hT9, new_it hra]]
                        refine W.eq (g2 := F0 m 263 ls [.int (itv S (sPl S aj) t), .int (nI t), .int (nI (sNr S)), .ref (mH M)]) rfl ?_
                        refine ca_V (As := [.int (nI (sNr S)), .int (nI t), .int (itv S (sPl S aj) t)]) (rest := []) (r0 := (RX4, TX4, 11)) (ci := 3) ⟨hx, hb, hml, hown, hts⟩ (cc_X4_put l E A _ (r9 := sNr S) (by omega) (by omega) (itv S (sPl S aj) t) hR) (cwV 3 hts gX4_join_X4_put rfl rfl rfl (by decide +kernel) ⟨(Nat.le_of_ble_eq_true rfl), (Nat.le_of_ble_eq_true rfl)⟩) hT hI hA hS rfl hR.1 rfl rfl hl.1 (Nat.le_of_ble_eq_true rfl) dX4_join_263 ⟨(Nat.le_of_ble_eq_true rfl), (Nat.le_of_ble_eq_true rfl)⟩ (fun r w_52 H locs hp_51 hI hS => ?_)
                        obtain ⟨rfl, hR⟩ := hp_51
                        refine W.eq (g2 := F0 m 266 ls []) rfl ?_
                        refine lv_iinc (v := nI (t + 1)) (lv' := [(8, .int (nI (t + 1))), (0, .ref (mH M)), (1, .int (nI pj)), (5, .int (sPl S aj)), (6, .int (sPl S bj)), (7, .int (nI (sNr S)))]) hx hb dX4_join_266 hl (k := 5) rfl (nI_1 _) (by decide) rfl (fun ls hl => ?_)
                        refine lv_goto (tgt := 238) hx hb dX4_join_269 (by decide) ?_
                        have e9 : uRow T9 (sNr S) (upd (sIt T9 (sNr S)) t (itv S (sPl S aj) t)) = uNew S (kdv S (sPl S aj)) (lnv S (sPl S aj) + lnv S (sPl S bj)) (va_cpy (itv S (sPl S aj)) (ini (kdv S (sPl S aj))) 0 0 (t + 1)) := by
                          rw [hT9, new_row, ← cpy_step]
                          simp only [Nat.zero_add]
                        rw [e9] at hR
                        exact ih (t + 1, uNew S (kdv S (sPl S aj)) (lnv S (sPl S aj) + lnv S (sPl S bj)) (va_cpy (itv S (sPl S aj)) (ini (kdv S (sPl S aj))) 0 0 (t + 1))) _ _ _ ⟨⟨by show t + 1 ≤ lnv S (sPl S aj); omega, rfl⟩, ⟨_, hI, hR⟩, hS, lv_sub hl [1, 2, 3, 4, 5, 0] rfl⟩ (by show lnv S (sPl S aj) - (t + 1) < lnv S (sPl S aj) - t; omega)
                    · have c_38 : ¬ lnv S (sPl S bj) ≤ t := fun q => c_38 ((nI_leI (a := lnv S (sPl S bj)) (b := t) (by omega) (by omega)).mpr q)
                      refine lv_aload_n hx hb dX4_join_142 rfl (lv_at hl 0 rfl) ?_
                      refine wr_get (ci := 3) (C := RX4) (T := TX4) (N := 11) (v := .ref (mK M)) hx hb hts in_X4 hown hT hI hR.1 rfl 3 (by decide) (hts (.fieldLink RX4 13 "CopyRowsModel" "kinds" "[I") (by decide +kernel)) rfl dX4_join_143 ?_
                      refine lv_iload hx hb dX4_join_146 (lv_at hl 4 rfl) ?_
                      refine W.eq (g2 := F0 m 148 ls [.int (nI (ix (sPl S bj))), .ref (mK M)]) (by rw [nI_ix hrb.1]) ?_
                      refine wr_ialdN (t := ix (sPl S bj)) (n := 520) (f := sKd S) hx hb hT hI hR.2.2.1 (by have h9 := hrb.2; have h8 := hW.2.2.2; omega) (by omega) dX4_join_148 ?_
                      refine W.eq (g2 := F0 m 149 ls [.int (kdv S (sPl S bj))]) (by rw [kdv_r hrb]) ?_
                      refine lv_iconst (v := 2) hx hb dX4_join_149 (by decide) ?_
                      refine lv_icmp_lt (tgt := 186) hx hb dX4_join_150 (by decide) (fun c_53 => ?_) (fun c_53 => ?_)
                      · refine lv_iconst (v := 0) hx hb dX4_join_186 (by decide) ?_
                        refine lv_istore (lv' := [(4, .int 0), (0, .ref (mH M)), (1, .int (nI pj)), (5, .int (sPl S aj)), (6, .int (sPl S bj)), (7, .int (nI t))]) hx hb dX4_join_187 hl (by decide) rfl (fun ls hl => ?_)
                        refine lv_iinc (v := nI (t + 1)) (lv' := [(7, .int (nI (t + 1))), (4, .int 0), (0, .ref (mH M)), (1, .int (nI pj)), (5, .int (sPl S aj)), (6, .int (sPl S bj))]) hx hb dX4_join_189 hl (k := 5) rfl (nI_1 _) (by decide) rfl (fun ls hl => ?_)
                        refine lv_goto (tgt := 125) hx hb dX4_join_192 (by decide) ?_
                        exact ih (t + 1) _ _ _ ⟨⟨by omega, fits_lt (k := 0) hfa (Or.inl (may_of hW hrb hm c_53))⟩, hI, hS, lv_sub hl [2, 3, 1, 4, 5, 0] rfl⟩ (by omega)
                      · refine lv_aload_n hx hb dX4_join_153 rfl (lv_at hl 0 rfl) ?_
                        refine lv_aload_n hx hb dX4_join_154 rfl (lv_at hl 0 rfl) ?_
                        refine wr_get (ci := 3) (C := RX4) (T := TX4) (N := 11) (v := .ref (mK M)) hx hb hts in_X4 hown hT hI hR.1 rfl 3 (by decide) (hts (.fieldLink RX4 13 "CopyRowsModel" "kinds" "[I") (by decide +kernel)) rfl dX4_join_155 ?_
                        refine lv_iload hx hb dX4_join_158 (lv_at hl 4 rfl) ?_
                        refine W.eq (g2 := F0 m 160 ls [.int (nI (ix (sPl S bj))), .ref (mK M), .ref (mH M)]) (by rw [nI_ix hrb.1]) ?_
                        refine wr_ialdN (t := ix (sPl S bj)) (n := 520) (f := sKd S) hx hb hT hI hR.2.2.1 (by have h9 := hrb.2; have h8 := hW.2.2.2; omega) (by omega) dX4_join_160 ?_
                        refine W.eq (g2 := F0 m 161 ls [.int (kdv S (sPl S bj)), .ref (mH M)]) (by rw [kdv_r hrb]) ?_
                        refine lv_aload_n hx hb dX4_join_161 rfl (lv_at hl 0 rfl) ?_
                        refine lv_iload hx hb dX4_join_162 (lv_at hl 4 rfl) ?_
                        refine lv_iload hx hb dX4_join_164 (lv_at hl 5 rfl) ?_
                        refine ca_V (As := [.int (sPl S bj), .int (nI t)]) (rest := [.int (kdv S (sPl S bj)), .ref (mH M)]) (r0 := (RX4, TX4, 11)) (ci := 3) ⟨hx, hb, hml, hown, hts⟩ (cM_get l E A _ hrb (by have := hW.2.2.2; omega) (by omega) hR) (cwV 2 hts gX4_join_X4_get rfl rfl rfl (by decide +kernel) ⟨(Nat.le_of_ble_eq_true rfl), (Nat.le_of_ble_eq_true rfl)⟩) hT hI hA hS rfl hR.1 rfl rfl hl.1 (Nat.le_of_ble_eq_true rfl) dX4_join_166 ⟨(Nat.le_of_ble_eq_true rfl), (Nat.le_of_ble_eq_true rfl)⟩ (fun r w_55 H locs hp_54 hI hS => ?_)
                        obtain ⟨rfl, rfl⟩ := hp_54
                        refine W.eq (g2 := F0 m 169 ls [.int (itv S (sPl S bj) t), .int (kdv S (sPl S bj)), .ref (mH M)]) rfl ?_
                        refine lv_aload_n hx hb dX4_join_169 rfl (lv_at hl 0 rfl) ?_
                        refine wr_get (ci := 3) (C := RX4) (T := TX4) (N := 11) (v := .ref (mK M)) hx hb hts in_X4 hown hT hI hR.1 rfl 3 (by decide) (hts (.fieldLink RX4 13 "CopyRowsModel" "kinds" "[I") (by decide +kernel)) rfl dX4_join_170 ?_
                        refine lv_iload hx hb dX4_join_173 (lv_at hl 3 rfl) ?_
                        refine W.eq (g2 := F0 m 175 ls [.int (nI (ix (sPl S aj))), .ref (mK M), .int (itv S (sPl S bj) t), .int (kdv S (sPl S bj)), .ref (mH M)]) (by rw [nI_ix hra.1]) ?_
                        refine wr_ialdN (t := ix (sPl S aj)) (n := 520) (f := sKd S) hx hb hT hI hR.2.2.1 (by have h9 := hra.2; have h8 := hW.2.2.2; omega) (by omega) dX4_join_175 ?_
                        refine W.eq (g2 := F0 m 176 ls [.int (kdv S (sPl S aj)), .int (itv S (sPl S bj) t), .int (kdv S (sPl S bj)), .ref (mH M)]) (by rw [kdv_r hra]) ?_
                        refine ca_V (As := [.int (kdv S (sPl S bj)), .int (itv S (sPl S bj) t), .int (kdv S (sPl S aj))]) (rest := []) (r0 := (RX4, TX4, 11)) (ci := 3) ⟨hx, hb, hml, hown, hts⟩ (cc_X4_fits l E A _ (kdv S (sPl S bj)) (itv S (sPl S bj) t) (kdv S (sPl S aj)) (fit_arg hW hrb c_53 _ _) hW hR) (cwV 3 hts gX4_join_X4_fits rfl rfl rfl (by decide +kernel) ⟨(Nat.le_of_ble_eq_true rfl), (Nat.le_of_ble_eq_true rfl)⟩) hT hI hA hS rfl hR.1 rfl rfl hl.1 (Nat.le_of_ble_eq_true rfl) dX4_join_176 ⟨(Nat.le_of_ble_eq_true rfl), (Nat.le_of_ble_eq_true rfl)⟩ (fun r w_57 H locs hp_56 hI hS => ?_)
                        obtain ⟨rfl, ⟨hf9, rfl⟩ | ⟨hf9, rfl⟩⟩ := hp_56
                        · refine W.eq (g2 := F0 m 179 ls [.int 1]) rfl ?_
                          refine lv_if_ne (tgt := 186) hx hb dX4_join_179 (by decide) (fun _ => ?_) (fun c => absurd c (by decide))
                          refine lv_iconst (v := 0) hx hb dX4_join_186 (by decide) ?_
                          refine lv_istore (lv' := [(4, .int 0), (0, .ref (mH M)), (1, .int (nI pj)), (5, .int (sPl S aj)), (6, .int (sPl S bj)), (7, .int (nI t))]) hx hb dX4_join_187 hl (by decide) rfl (fun ls hl => ?_)
                          refine lv_iinc (v := nI (t + 1)) (lv' := [(7, .int (nI (t + 1))), (4, .int 0), (0, .ref (mH M)), (1, .int (nI pj)), (5, .int (sPl S aj)), (6, .int (sPl S bj))]) hx hb dX4_join_189 hl (k := 5) rfl (nI_1 _) (by decide) rfl (fun ls hl => ?_)
                          refine lv_goto (tgt := 125) hx hb dX4_join_192 (by decide) ?_
                          exact ih (t + 1) _ _ _ ⟨⟨by omega, fits_lt (k := 0) hfa (Or.inr (by rw [Nat.zero_add]; exact hf9))⟩, hI, hS, lv_sub hl [2, 3, 1, 4, 5, 0] rfl⟩ (by omega)
                        · refine W.eq (g2 := F0 m 179 ls [.int 0]) rfl ?_
                          refine lv_if_ne (tgt := 186) hx hb dX4_join_179 (by decide) (fun c => absurd c (by decide)) (fun _ => ?_)
                          refine lv_iconst (v := 2) hx hb dX4_join_182 (by decide) ?_
                          refine lv_goto (tgt := 187) hx hb dX4_join_183 (by decide) ?_
                          refine lv_istore (lv' := [(4, .int 2), (0, .ref (mH M)), (1, .int (nI pj)), (5, .int (sPl S aj)), (6, .int (sPl S bj)), (7, .int (nI t))]) hx hb dX4_join_187 hl (by decide) rfl (fun ls hl => ?_)
                          refine lv_iinc (v := nI (t + 1)) (lv' := [(7, .int (nI (t + 1))), (4, .int 2), (0, .ref (mH M)), (1, .int (nI pj)), (5, .int (sPl S aj)), (6, .int (sPl S bj))]) hx hb dX4_join_189 hl (k := 5) rfl (nI_1 _) (by decide) rfl (fun ls hl => ?_)
                          refine lv_goto (tgt := 125) hx hb dX4_join_192 (by decide) ?_
                          refine lv_iload hx hb dX4_join_125 (lv_at hl 1 rfl) ?_
                          refine lv_if_ne (tgt := 195) hx hb dX4_join_127 (by decide) (fun _ => ?_) (fun c => absurd c (by decide))
                          refine lv_iload hx hb dX4_join_195 (lv_at hl 1 rfl) ?_
                          refine lv_if_eq (tgt := 207) hx hb dX4_join_197 (by decide) (fun c => absurd c (by decide)) (fun _ => ?_)
                          refine lv_aload_n hx hb dX4_join_200 rfl (lv_at hl 2 rfl) ?_
                          refine lv_iload hx hb dX4_join_201 (lv_at hl 1 rfl) ?_
                          refine ca_V (As := [.int 2]) (rest := []) (r0 := (RX4, TX4, 11)) (ci := 3) ⟨hx, hb, hml, hown, hts⟩ (cc_X4_no l E A _ 2 hR) (cwV 1 hts gX4_join_X4_no rfl rfl rfl (by decide +kernel) ⟨(Nat.le_of_ble_eq_true rfl), (Nat.le_of_ble_eq_true rfl)⟩) hT hI hA hS rfl hR.1 rfl rfl hl.1 (Nat.le_of_ble_eq_true rfl) dX4_join_203 ⟨(Nat.le_of_ble_eq_true rfl), (Nat.le_of_ble_eq_true rfl)⟩ (fun r w_59 H locs hp_58 hI hS => ?_)
                          obtain ⟨rfl, hR⟩ := hp_58
                          refine W.eq (g2 := F0 m 206 ls [.int 0]) rfl ?_
                          exact re_i hx hb hr hlocks hT hA hS hI (PoM.of (by
                                                        unfold sp_join
                                                        try simp only [pv_nI hpj, pv_nI haj, pv_nI hbj]
                                                        rw [if_neg ((fun q => q.elim ho_3 (fun q => q.elim ho_6 ho_9))), if_neg (fun q9 => q9.elim c_10 c_13), if_neg (fun q9 => q9.elim (row_kd hW hr16) (row_kd hW hr26)), if_neg (not_not_intro c_33), if_pos (Or.inr (by rw [mvN_at (may_not hW hrb hm c_53) (by omega) hfa (by rw [Nat.zero_add]; exact hf9)]; omega))]) hR) (Nat.le_of_ble_eq_true rfl) (Nat.le_of_ble_eq_true rfl) dX4_join_206
                · have c_33 : ¬ (lnv S (sPl S aj)) + (lnv S (sPl S bj)) ≤ 40 := fun q => c_33 ((nI_leI (a := (lnv S (sPl S aj)) + (lnv S (sPl S bj))) (b := 40) (by omega) (by omega)).mpr q)
                  refine lv_iconst (v := 3) hx hb dX4_join_90 (by decide) ?_
                  refine lv_istore (lv' := [(4, .int 3), (0, .ref (mH M)), (1, .int (nI pj)), (2, .int (nI aj)), (3, .int (nI bj))]) hx hb dX4_join_91 hl (by decide) rfl (fun ls hl => ?_)
                  refine lv_iload hx hb dX4_join_93 (lv_at hl 0 rfl) ?_
                  refine lv_if_ne (tgt := 106) hx hb dX4_join_95 (by decide) (fun _ => ?_) (fun c => absurd c (by decide))
                  refine lv_aload_n hx hb dX4_join_106 rfl (lv_at hl 1 rfl) ?_
                  refine wr_get (ci := 3) (C := RX4) (T := TX4) (N := 11) (v := .ref (mP M)) hx hb hts in_X4 hown hT hI hR.1 rfl 1 (by decide) (hts (.fieldLink RX4 7 "CopyRowsModel" "places" "[I") (by decide +kernel)) rfl dX4_join_107 ?_
                  refine lv_iload_n hx hb dX4_join_110 rfl (lv_at hl 3 rfl) ?_
                  refine wr_ialdN (t := aj) (n := 12) (f := plF S) hx hb hT hI hR.2.1 (by omega) (by omega) dX4_join_111 ?_
                  refine W.eq (g2 := F0 m 112 ls [.int (sPl S aj)]) (by rw [plF_at (by omega)]) ?_
                  refine lv_istore (lv' := [(5, .int (sPl S aj)), (4, .int 3), (0, .ref (mH M)), (1, .int (nI pj)), (2, .int (nI aj)), (3, .int (nI bj))]) hx hb dX4_join_112 hl (by decide) rfl (fun ls hl => ?_)
                  refine lv_aload_n hx hb dX4_join_114 rfl (lv_at hl 2 rfl) ?_
                  refine wr_get (ci := 3) (C := RX4) (T := TX4) (N := 11) (v := .ref (mP M)) hx hb hts in_X4 hown hT hI hR.1 rfl 1 (by decide) (hts (.fieldLink RX4 7 "CopyRowsModel" "places" "[I") (by decide +kernel)) rfl dX4_join_115 ?_
                  refine lv_iload_n hx hb dX4_join_118 rfl (lv_at hl 5 rfl) ?_
                  refine wr_ialdN (t := bj) (n := 12) (f := plF S) hx hb hT hI hR.2.1 (by omega) (by omega) dX4_join_119 ?_
                  refine W.eq (g2 := F0 m 120 ls [.int (sPl S bj)]) (by rw [plF_at (by omega)]) ?_
                  refine lv_istore (lv' := [(6, .int (sPl S bj)), (5, .int (sPl S aj)), (4, .int 3), (0, .ref (mH M)), (1, .int (nI pj)), (2, .int (nI aj)), (3, .int (nI bj))]) hx hb dX4_join_120 hl (by decide) rfl (fun ls hl => ?_)
                  refine lv_iconst (v := 0) hx hb dX4_join_122 (by decide) ?_
                  refine lv_istore (lv' := [(7, .int 0), (6, .int (sPl S bj)), (5, .int (sPl S aj)), (4, .int 3), (0, .ref (mH M)), (1, .int (nI pj)), (2, .int (nI aj)), (3, .int (nI bj))]) hx hb dX4_join_123 hl (by decide) rfl (fun ls hl => ?_)
                  refine lv_iload hx hb dX4_join_125 (lv_at hl 3 rfl) ?_
                  refine lv_if_ne (tgt := 195) hx hb dX4_join_127 (by decide) (fun _ => ?_) (fun c => absurd c (by decide))
                  refine lv_iload hx hb dX4_join_195 (lv_at hl 3 rfl) ?_
                  refine lv_if_eq (tgt := 207) hx hb dX4_join_197 (by decide) (fun c => absurd c (by decide)) (fun _ => ?_)
                  refine lv_aload_n hx hb dX4_join_200 rfl (lv_at hl 4 rfl) ?_
                  refine lv_iload hx hb dX4_join_201 (lv_at hl 3 rfl) ?_
                  refine ca_V (As := [.int 3]) (rest := []) (r0 := (RX4, TX4, 11)) (ci := 3) ⟨hx, hb, hml, hown, hts⟩ (cc_X4_no l E A _ 3 hR) (cwV 1 hts gX4_join_X4_no rfl rfl rfl (by decide +kernel) ⟨(Nat.le_of_ble_eq_true rfl), (Nat.le_of_ble_eq_true rfl)⟩) hT hI hA hS rfl hR.1 rfl rfl hl.1 (Nat.le_of_ble_eq_true rfl) dX4_join_203 ⟨(Nat.le_of_ble_eq_true rfl), (Nat.le_of_ble_eq_true rfl)⟩ (fun r w_61 H locs hp_60 hI hS => ?_)
                  obtain ⟨rfl, hR⟩ := hp_60
                  refine W.eq (g2 := F0 m 206 ls [.int 0]) rfl ?_
                  exact re_i hx hb hr hlocks hT hA hS hI (PoM.of (by
                                        unfold sp_join
                                        try simp only [pv_nI hpj, pv_nI haj, pv_nI hbj]
                                        rw [if_neg ((fun q => q.elim ho_3 (fun q => q.elim ho_6 ho_9))), if_neg (fun q9 => q9.elim c_10 c_13), if_neg (fun q9 => q9.elim (row_kd hW hr16) (row_kd hW hr26)), if_pos (c_33)]) hR) (Nat.le_of_ble_eq_true rfl) (Nat.le_of_ble_eq_true rfl) dX4_join_206
          · refine lv_iconst (v := 1) hx hb dX4_join_44 (by decide) ?_
            refine lv_goto (tgt := 67) hx hb dX4_join_45 (by decide) ?_
            refine lv_istore (lv' := [(4, .int 1), (0, .ref (mH M)), (1, .int (nI pj)), (2, .int (nI aj)), (3, .int (nI bj))]) hx hb dX4_join_67 hl (by decide) rfl (fun ls hl => ?_)
            refine lv_iload hx hb dX4_join_69 (lv_at hl 0 rfl) ?_
            refine lv_if_ne (tgt := 93) hx hb dX4_join_71 (by decide) (fun _ => ?_) (fun c => absurd c (by decide))
            refine lv_iload hx hb dX4_join_93 (lv_at hl 0 rfl) ?_
            refine lv_if_ne (tgt := 106) hx hb dX4_join_95 (by decide) (fun _ => ?_) (fun c => absurd c (by decide))
            refine lv_aload_n hx hb dX4_join_106 rfl (lv_at hl 1 rfl) ?_
            refine wr_get (ci := 3) (C := RX4) (T := TX4) (N := 11) (v := .ref (mP M)) hx hb hts in_X4 hown hT hI hR.1 rfl 1 (by decide) (hts (.fieldLink RX4 7 "CopyRowsModel" "places" "[I") (by decide +kernel)) rfl dX4_join_107 ?_
            refine lv_iload_n hx hb dX4_join_110 rfl (lv_at hl 3 rfl) ?_
            refine wr_ialdN (t := aj) (n := 12) (f := plF S) hx hb hT hI hR.2.1 (by omega) (by omega) dX4_join_111 ?_
            refine W.eq (g2 := F0 m 112 ls [.int (sPl S aj)]) (by rw [plF_at (by omega)]) ?_
            refine lv_istore (lv' := [(5, .int (sPl S aj)), (4, .int 1), (0, .ref (mH M)), (1, .int (nI pj)), (2, .int (nI aj)), (3, .int (nI bj))]) hx hb dX4_join_112 hl (by decide) rfl (fun ls hl => ?_)
            refine lv_aload_n hx hb dX4_join_114 rfl (lv_at hl 2 rfl) ?_
            refine wr_get (ci := 3) (C := RX4) (T := TX4) (N := 11) (v := .ref (mP M)) hx hb hts in_X4 hown hT hI hR.1 rfl 1 (by decide) (hts (.fieldLink RX4 7 "CopyRowsModel" "places" "[I") (by decide +kernel)) rfl dX4_join_115 ?_
            refine lv_iload_n hx hb dX4_join_118 rfl (lv_at hl 5 rfl) ?_
            refine wr_ialdN (t := bj) (n := 12) (f := plF S) hx hb hT hI hR.2.1 (by omega) (by omega) dX4_join_119 ?_
            refine W.eq (g2 := F0 m 120 ls [.int (sPl S bj)]) (by rw [plF_at (by omega)]) ?_
            refine lv_istore (lv' := [(6, .int (sPl S bj)), (5, .int (sPl S aj)), (4, .int 1), (0, .ref (mH M)), (1, .int (nI pj)), (2, .int (nI aj)), (3, .int (nI bj))]) hx hb dX4_join_120 hl (by decide) rfl (fun ls hl => ?_)
            refine lv_iconst (v := 0) hx hb dX4_join_122 (by decide) ?_
            refine lv_istore (lv' := [(7, .int 0), (6, .int (sPl S bj)), (5, .int (sPl S aj)), (4, .int 1), (0, .ref (mH M)), (1, .int (nI pj)), (2, .int (nI aj)), (3, .int (nI bj))]) hx hb dX4_join_123 hl (by decide) rfl (fun ls hl => ?_)
            refine lv_iload hx hb dX4_join_125 (lv_at hl 3 rfl) ?_
            refine lv_if_ne (tgt := 195) hx hb dX4_join_127 (by decide) (fun _ => ?_) (fun c => absurd c (by decide))
            refine lv_iload hx hb dX4_join_195 (lv_at hl 3 rfl) ?_
            refine lv_if_eq (tgt := 207) hx hb dX4_join_197 (by decide) (fun c => absurd c (by decide)) (fun _ => ?_)
            refine lv_aload_n hx hb dX4_join_200 rfl (lv_at hl 4 rfl) ?_
            refine lv_iload hx hb dX4_join_201 (lv_at hl 3 rfl) ?_
            refine ca_V (As := [.int 1]) (rest := []) (r0 := (RX4, TX4, 11)) (ci := 3) ⟨hx, hb, hml, hown, hts⟩ (cc_X4_no l E A _ 1 hR) (cwV 1 hts gX4_join_X4_no rfl rfl rfl (by decide +kernel) ⟨(Nat.le_of_ble_eq_true rfl), (Nat.le_of_ble_eq_true rfl)⟩) hT hI hA hS rfl hR.1 rfl rfl hl.1 (Nat.le_of_ble_eq_true rfl) dX4_join_203 ⟨(Nat.le_of_ble_eq_true rfl), (Nat.le_of_ble_eq_true rfl)⟩ (fun r w_63 H locs hp_62 hI hS => ?_)
            obtain ⟨rfl, hR⟩ := hp_62
            refine W.eq (g2 := F0 m 206 ls [.int 0]) rfl ?_
            exact re_i hx hb hr hlocks hT hA hS hI (PoM.of (by
                            unfold sp_join
                            try simp only [pv_nI hpj, pv_nI haj, pv_nI hbj]
                            rw [if_neg ((fun q => q.elim ho_3 (fun q => q.elim ho_6 ho_9))), if_pos (Or.inr c_13)]) hR) (Nat.le_of_ble_eq_true rfl) (Nat.le_of_ble_eq_true rfl) dX4_join_206
      · have ho_9 : oP b := Classical.not_not.mp ho_9
        refine W.eq (g2 := F0 m 18 ls [.int 0]) rfl ?_
        refine lv_if_ne (tgt := 24) hx hb dX4_join_18 (by decide) (fun c => absurd c (by decide)) (fun _ => ?_)
        refine lv_ldc (v := -2000000001) hx hb hown (hts (.constant RX4 54 (-2000000001)) (by decide +kernel)) dX4_join_21 ?_
        exact re_i hx hb hr hlocks hT hA hS hI (PoM.of (by
                    unfold sp_join
                    rw [if_pos (Or.inr (Or.inr (ho_9)))]) hR) (Nat.le_of_ble_eq_true rfl) (Nat.le_of_ble_eq_true rfl) dX4_join_23
    · have ho_6 : oP a := Classical.not_not.mp ho_6
      refine W.eq (g2 := F0 m 11 ls [.int 0]) rfl ?_
      refine lv_if_eq (tgt := 21) hx hb dX4_join_11 (by decide) (fun _ => ?_) (fun c => absurd c (by decide))
      refine lv_ldc (v := -2000000001) hx hb hown (hts (.constant RX4 54 (-2000000001)) (by decide +kernel)) dX4_join_21 ?_
      exact re_i hx hb hr hlocks hT hA hS hI (PoM.of (by
                unfold sp_join
                rw [if_pos (Or.inr (Or.inl ho_6))]) hR) (Nat.le_of_ble_eq_true rfl) (Nat.le_of_ble_eq_true rfl) dX4_join_23
  · have ho_3 : oP p := Classical.not_not.mp ho_3
    refine W.eq (g2 := F0 m 4 ls [.int 0]) rfl ?_
    refine lv_if_eq (tgt := 21) hx hb dX4_join_4 (by decide) (fun _ => ?_) (fun c => absurd c (by decide))
    refine lv_ldc (v := -2000000001) hx hb hown (hts (.constant RX4 54 (-2000000001)) (by decide +kernel)) dX4_join_21 ?_
    exact re_i hx hb hr hlocks hT hA hS hI (PoM.of (by
            unfold sp_join
            rw [if_pos (Or.inl ho_3)]) hR) (Nat.le_of_ble_eq_true rfl) (Nat.le_of_ble_eq_true rfl) dX4_join_23

abbrev mAm (M : Md) (a : Nat) : Prop := a = mH M ∨ a = mP M ∨ a = mK M ∨ a = mL M ∨ a = mI M ∨ a = mC M ∨ a = mN M ∨ a = mT M

set_option maxHeartbeats 4000000 in
set_option maxRecDepth 100000 in
theorem cc_X4_init (l : Launch) (E : En) (A : Nat → Prop) (w : Wd) {h0 : Nat} (hc : w h0 = some (.inr (3, [.int 0, .null, .int 0, .null, .null, .null, .int 0, .null, .null, .int 0, .null]))) : Ct l yX4_init wsX4_init ({ frames := 1, cells := 7, slots := 22932, locals := 20 } : Room) E A w [.ref h0] (fun r w' => r = none ∧ ∃ M : Md, mH M = h0 ∧ (∃ tt, Rm E Sz M tt w') ∧ (∀ a x, a ≠ h0 → w a = some x → w' a = some x) ∧ ∀ a, mAm M a → a = h0 ∨ w a = none) 7 22932 := by
  refine Met.ofW (cc := cX4_init) (maxL := 2) (ret := none) (by decide) rfl ?_
  intro pp0 ee0 s m args below meth cc0 s₁ B hml hv
  obtain ⟨rfl, hT, hI, hA⟩ := hv
  have hx := B.exec
  have hb := B.bytes
  have hr := B.returns
  have hts := atoms_spec (ws := wsX4_init) B.pre
  have hown : s.vm.findClass RX4 = some m.cls := findClass_of_methodNamed B.named
  have hlocks := B.notSynchronized
  have hin : meth.name = "<init>" := (name_of_methodNamed B.named B.method).1
  have in_X4 : ∀ w ∈ wsX40, w ∈ wsX4_init := by decide +kernel
  have hS : va_S A s.heap s.heap [] := va_S.rf
  have hl := lv_entry ([.ref h0]) (n := 2) (Nat.le_of_ble_eq_true rfl)
  rw [lg_entry_eq]
  generalize (lg_sl ([.ref h0]) ++ List.replicate (2 - (lg_sl ([.ref h0])).length) Slot.unset).toArray = ls at hl ⊢
  have hl : lv_has ls 2 [(0, .ref h0)] := hl
  refine lv_aload_n hx hb dX4_init_0 rfl (lv_at hl 0 rfl) ?_
  refine W.objInit hx hb hown (hts (.methodLink RX4 1 objectInit) (by decide +kernel)) (hts (.instanceMethod objectInit) (by decide +kernel)) (hts _ (by decide +kernel)) rfl (by rw [hml]; exact hl.1) rfl dX4_init_1 (Nat.le_of_ble_eq_true rfl) (Nat.le_of_ble_eq_true rfl) ?_
  refine W.eq (g2 := F0 m 4 ls []) rfl ?_
  refine lv_aload_n hx hb dX4_init_4 rfl (lv_at hl 0 rfl) ?_
  refine lv_bipush (v := 12) hx hb dX4_init_5 (by decide) ?_
  refine wr_newi (N := 12) hx hb (hts (.arrayClass .int) (by decide +kernel)) hT hI hS hA (by decide) (by decide) (by decide) (Nat.le_of_ble_eq_true rfl) (Nat.le_of_ble_eq_true rfl) dX4_init_7 (fun ar0 H har0 hI hS => ?_)
  have hh0_ar0 : h0 ≠ ar0 := nw_ne hc har0
  have hn_ar0 : w ar0 = none := har0
  obtain ⟨wd1, hwd1⟩ : ∃ wd1 : Wd, va_up w ar0 (some (eI E 12 (fun _ => 0))) = wd1 := ⟨_, rfl⟩
  have hf1_h0 : wd1 h0 = some (.inr (3, [.int 0, .null, .int 0, .null, .null, .null, .int 0, .null, .null, .int 0, .null])) := by rw [← hwd1]; exact (va_up_ne _ _ hh0_ar0).trans hc
  have hf1_ar0 : wd1 ar0 = some (eI E 12 (fun _ => 0)) := by rw [← hwd1]; exact va_up_self _ _ _
  have hk1 : ∀ a, a ≠ h0 → a ≠ ar0 → wd1 a = w a := fun a g0 gz => by rw [← hwd1]; exact (va_up_ne _ _ gz).trans rfl
  have hI : Hv E A wd1 H := by rw [← hwd1]; exact hI
  clear hwd1
  refine wr_putF (ci := 3) (C := RX4) (T := TX4) (N := 11) (v := .ref ar0) (ty := .array .int) hx hb hts in_X4 tyX4 tyX4_ok nmX4 hown hT hI hS hf1_h0 rfl 1 (by decide) (hts (.fieldLink RX4 7 "CopyRowsModel" "places" "[I") (by decide +kernel)) rfl hin rfl (by decide +kernel) rfl rfl (Nat.le_of_ble_eq_true rfl) dX4_init_9 (fun H locs hI hS => ?_)
  obtain ⟨wd2, hwd2⟩ : ∃ wd2 : Wd, va_up wd1 h0 (some (.inr (3, [.int 0, .ref ar0, .int 0, .null, .null, .null, .int 0, .null, .null, .int 0, .null]))) = wd2 := ⟨_, rfl⟩
  have hf2_ar0 : wd2 ar0 = some (eI E 12 (fun _ => 0)) := by rw [← hwd2]; exact (va_up_ne _ _ hh0_ar0.symm).trans hf1_ar0
  have hf2_h0 : wd2 h0 = some (.inr (3, [.int 0, .ref ar0, .int 0, .null, .null, .null, .int 0, .null, .null, .int 0, .null])) := by rw [← hwd2]; exact va_up_self _ _ _
  have hk2 : ∀ a, a ≠ h0 → a ≠ ar0 → wd2 a = w a := fun a g0 gar0 => by rw [← hwd2]; exact (va_up_ne _ _ g0).trans (hk1 a g0 gar0)
  have hI : Hv E A wd2 H := by rw [← hwd2]; exact hI
  clear hwd2
  refine lv_aload_n hx hb dX4_init_12 rfl (lv_at hl 0 rfl) ?_
  refine lv_sipush (v := 520) hx hb dX4_init_13 (by decide) ?_
  refine wr_newi (N := 520) hx hb (hts (.arrayClass .int) (by decide +kernel)) hT hI hS hA (by decide) (by decide) (by decide) (Nat.le_of_ble_eq_true rfl) (Nat.le_of_ble_eq_true rfl) dX4_init_16 (fun ar1 H har1 hI hS => ?_)
  have har0_ar1 : ar0 ≠ ar1 := nw_ne hf2_ar0 har1
  have hh0_ar1 : h0 ≠ ar1 := nw_ne hf2_h0 har1
  have hn_ar1 : w ar1 = none := (hk2 ar1 hh0_ar1.symm har0_ar1.symm).symm.trans har1
  obtain ⟨wd3, hwd3⟩ : ∃ wd3 : Wd, va_up wd2 ar1 (some (eI E 520 (fun _ => 0))) = wd3 := ⟨_, rfl⟩
  have hf3_ar0 : wd3 ar0 = some (eI E 12 (fun _ => 0)) := by rw [← hwd3]; exact (va_up_ne _ _ har0_ar1).trans hf2_ar0
  have hf3_h0 : wd3 h0 = some (.inr (3, [.int 0, .ref ar0, .int 0, .null, .null, .null, .int 0, .null, .null, .int 0, .null])) := by rw [← hwd3]; exact (va_up_ne _ _ hh0_ar1).trans hf2_h0
  have hf3_ar1 : wd3 ar1 = some (eI E 520 (fun _ => 0)) := by rw [← hwd3]; exact va_up_self _ _ _
  have hk3 : ∀ a, a ≠ h0 → a ≠ ar0 → a ≠ ar1 → wd3 a = w a := fun a g0 gar0 gz => by rw [← hwd3]; exact (va_up_ne _ _ gz).trans (hk2 a g0 gar0)
  have hI : Hv E A wd3 H := by rw [← hwd3]; exact hI
  clear hwd3
  refine wr_putF (ci := 3) (C := RX4) (T := TX4) (N := 11) (v := .ref ar1) (ty := .array .int) hx hb hts in_X4 tyX4 tyX4_ok nmX4 hown hT hI hS hf3_h0 rfl 3 (by decide) (hts (.fieldLink RX4 13 "CopyRowsModel" "kinds" "[I") (by decide +kernel)) rfl hin rfl (by decide +kernel) rfl rfl (Nat.le_of_ble_eq_true rfl) dX4_init_18 (fun H locs hI hS => ?_)
  obtain ⟨wd4, hwd4⟩ : ∃ wd4 : Wd, va_up wd3 h0 (some (.inr (3, [.int 0, .ref ar0, .int 0, .ref ar1, .null, .null, .int 0, .null, .null, .int 0, .null]))) = wd4 := ⟨_, rfl⟩
  have hf4_ar0 : wd4 ar0 = some (eI E 12 (fun _ => 0)) := by rw [← hwd4]; exact (va_up_ne _ _ hh0_ar0.symm).trans hf3_ar0
  have hf4_ar1 : wd4 ar1 = some (eI E 520 (fun _ => 0)) := by rw [← hwd4]; exact (va_up_ne _ _ hh0_ar1.symm).trans hf3_ar1
  have hf4_h0 : wd4 h0 = some (.inr (3, [.int 0, .ref ar0, .int 0, .ref ar1, .null, .null, .int 0, .null, .null, .int 0, .null])) := by rw [← hwd4]; exact va_up_self _ _ _
  have hk4 : ∀ a, a ≠ h0 → a ≠ ar0 → a ≠ ar1 → wd4 a = w a := fun a g0 gar0 gar1 => by rw [← hwd4]; exact (va_up_ne _ _ g0).trans (hk3 a g0 gar0 gar1)
  have hI : Hv E A wd4 H := by rw [← hwd4]; exact hI
  clear hwd4
  refine lv_aload_n hx hb dX4_init_21 rfl (lv_at hl 0 rfl) ?_
  refine lv_sipush (v := 520) hx hb dX4_init_22 (by decide) ?_
  refine wr_newi (N := 520) hx hb (hts (.arrayClass .int) (by decide +kernel)) hT hI hS hA (by decide) (by decide) (by decide) (Nat.le_of_ble_eq_true rfl) (Nat.le_of_ble_eq_true rfl) dX4_init_25 (fun ar2 H har2 hI hS => ?_)
  have har0_ar2 : ar0 ≠ ar2 := nw_ne hf4_ar0 har2
  have har1_ar2 : ar1 ≠ ar2 := nw_ne hf4_ar1 har2
  have hh0_ar2 : h0 ≠ ar2 := nw_ne hf4_h0 har2
  have hn_ar2 : w ar2 = none := (hk4 ar2 hh0_ar2.symm har0_ar2.symm har1_ar2.symm).symm.trans har2
  obtain ⟨wd5, hwd5⟩ : ∃ wd5 : Wd, va_up wd4 ar2 (some (eI E 520 (fun _ => 0))) = wd5 := ⟨_, rfl⟩
  have hf5_ar0 : wd5 ar0 = some (eI E 12 (fun _ => 0)) := by rw [← hwd5]; exact (va_up_ne _ _ har0_ar2).trans hf4_ar0
  have hf5_ar1 : wd5 ar1 = some (eI E 520 (fun _ => 0)) := by rw [← hwd5]; exact (va_up_ne _ _ har1_ar2).trans hf4_ar1
  have hf5_h0 : wd5 h0 = some (.inr (3, [.int 0, .ref ar0, .int 0, .ref ar1, .null, .null, .int 0, .null, .null, .int 0, .null])) := by rw [← hwd5]; exact (va_up_ne _ _ hh0_ar2).trans hf4_h0
  have hf5_ar2 : wd5 ar2 = some (eI E 520 (fun _ => 0)) := by rw [← hwd5]; exact va_up_self _ _ _
  have hk5 : ∀ a, a ≠ h0 → a ≠ ar0 → a ≠ ar1 → a ≠ ar2 → wd5 a = w a := fun a g0 gar0 gar1 gz => by rw [← hwd5]; exact (va_up_ne _ _ gz).trans (hk4 a g0 gar0 gar1)
  have hI : Hv E A wd5 H := by rw [← hwd5]; exact hI
  clear hwd5
  refine wr_putF (ci := 3) (C := RX4) (T := TX4) (N := 11) (v := .ref ar2) (ty := .array .int) hx hb hts in_X4 tyX4 tyX4_ok nmX4 hown hT hI hS hf5_h0 rfl 4 (by decide) (hts (.fieldLink RX4 16 "CopyRowsModel" "lengths" "[I") (by decide +kernel)) rfl hin rfl (by decide +kernel) rfl rfl (Nat.le_of_ble_eq_true rfl) dX4_init_27 (fun H locs hI hS => ?_)
  obtain ⟨wd6, hwd6⟩ : ∃ wd6 : Wd, va_up wd5 h0 (some (.inr (3, [.int 0, .ref ar0, .int 0, .ref ar1, .ref ar2, .null, .int 0, .null, .null, .int 0, .null]))) = wd6 := ⟨_, rfl⟩
  have hf6_ar0 : wd6 ar0 = some (eI E 12 (fun _ => 0)) := by rw [← hwd6]; exact (va_up_ne _ _ hh0_ar0.symm).trans hf5_ar0
  have hf6_ar1 : wd6 ar1 = some (eI E 520 (fun _ => 0)) := by rw [← hwd6]; exact (va_up_ne _ _ hh0_ar1.symm).trans hf5_ar1
  have hf6_ar2 : wd6 ar2 = some (eI E 520 (fun _ => 0)) := by rw [← hwd6]; exact (va_up_ne _ _ hh0_ar2.symm).trans hf5_ar2
  have hf6_h0 : wd6 h0 = some (.inr (3, [.int 0, .ref ar0, .int 0, .ref ar1, .ref ar2, .null, .int 0, .null, .null, .int 0, .null])) := by rw [← hwd6]; exact va_up_self _ _ _
  have hk6 : ∀ a, a ≠ h0 → a ≠ ar0 → a ≠ ar1 → a ≠ ar2 → wd6 a = w a := fun a g0 gar0 gar1 gar2 => by rw [← hwd6]; exact (va_up_ne _ _ g0).trans (hk5 a g0 gar0 gar1 gar2)
  have hI : Hv E A wd6 H := by rw [← hwd6]; exact hI
  clear hwd6
  refine lv_aload_n hx hb dX4_init_30 rfl (lv_at hl 0 rfl) ?_
  refine lv_sipush (v := 20800) hx hb dX4_init_31 (by decide) ?_
  refine wr_newi (N := 20800) hx hb (hts (.arrayClass .int) (by decide +kernel)) hT hI hS hA (by decide) (by decide) (by decide) (Nat.le_of_ble_eq_true rfl) (Nat.le_of_ble_eq_true rfl) dX4_init_34 (fun ar3 H har3 hI hS => ?_)
  have har0_ar3 : ar0 ≠ ar3 := nw_ne hf6_ar0 har3
  have har1_ar3 : ar1 ≠ ar3 := nw_ne hf6_ar1 har3
  have har2_ar3 : ar2 ≠ ar3 := nw_ne hf6_ar2 har3
  have hh0_ar3 : h0 ≠ ar3 := nw_ne hf6_h0 har3
  have hn_ar3 : w ar3 = none := (hk6 ar3 hh0_ar3.symm har0_ar3.symm har1_ar3.symm har2_ar3.symm).symm.trans har3
  obtain ⟨wd7, hwd7⟩ : ∃ wd7 : Wd, va_up wd6 ar3 (some (eI E 20800 (fun _ => 0))) = wd7 := ⟨_, rfl⟩
  have hf7_ar0 : wd7 ar0 = some (eI E 12 (fun _ => 0)) := by rw [← hwd7]; exact (va_up_ne _ _ har0_ar3).trans hf6_ar0
  have hf7_ar1 : wd7 ar1 = some (eI E 520 (fun _ => 0)) := by rw [← hwd7]; exact (va_up_ne _ _ har1_ar3).trans hf6_ar1
  have hf7_ar2 : wd7 ar2 = some (eI E 520 (fun _ => 0)) := by rw [← hwd7]; exact (va_up_ne _ _ har2_ar3).trans hf6_ar2
  have hf7_h0 : wd7 h0 = some (.inr (3, [.int 0, .ref ar0, .int 0, .ref ar1, .ref ar2, .null, .int 0, .null, .null, .int 0, .null])) := by rw [← hwd7]; exact (va_up_ne _ _ hh0_ar3).trans hf6_h0
  have hf7_ar3 : wd7 ar3 = some (eI E 20800 (fun _ => 0)) := by rw [← hwd7]; exact va_up_self _ _ _
  have hk7 : ∀ a, a ≠ h0 → a ≠ ar0 → a ≠ ar1 → a ≠ ar2 → a ≠ ar3 → wd7 a = w a := fun a g0 gar0 gar1 gar2 gz => by rw [← hwd7]; exact (va_up_ne _ _ gz).trans (hk6 a g0 gar0 gar1 gar2)
  have hI : Hv E A wd7 H := by rw [← hwd7]; exact hI
  clear hwd7
  refine wr_putF (ci := 3) (C := RX4) (T := TX4) (N := 11) (v := .ref ar3) (ty := .array .int) hx hb hts in_X4 tyX4 tyX4_ok nmX4 hown hT hI hS hf7_h0 rfl 5 (by decide) (hts (.fieldLink RX4 19 "CopyRowsModel" "items" "[I") (by decide +kernel)) rfl hin rfl (by decide +kernel) rfl rfl (Nat.le_of_ble_eq_true rfl) dX4_init_36 (fun H locs hI hS => ?_)
  obtain ⟨wd8, hwd8⟩ : ∃ wd8 : Wd, va_up wd7 h0 (some (.inr (3, [.int 0, .ref ar0, .int 0, .ref ar1, .ref ar2, .ref ar3, .int 0, .null, .null, .int 0, .null]))) = wd8 := ⟨_, rfl⟩
  have hf8_ar0 : wd8 ar0 = some (eI E 12 (fun _ => 0)) := by rw [← hwd8]; exact (va_up_ne _ _ hh0_ar0.symm).trans hf7_ar0
  have hf8_ar1 : wd8 ar1 = some (eI E 520 (fun _ => 0)) := by rw [← hwd8]; exact (va_up_ne _ _ hh0_ar1.symm).trans hf7_ar1
  have hf8_ar2 : wd8 ar2 = some (eI E 520 (fun _ => 0)) := by rw [← hwd8]; exact (va_up_ne _ _ hh0_ar2.symm).trans hf7_ar2
  have hf8_ar3 : wd8 ar3 = some (eI E 20800 (fun _ => 0)) := by rw [← hwd8]; exact (va_up_ne _ _ hh0_ar3.symm).trans hf7_ar3
  have hf8_h0 : wd8 h0 = some (.inr (3, [.int 0, .ref ar0, .int 0, .ref ar1, .ref ar2, .ref ar3, .int 0, .null, .null, .int 0, .null])) := by rw [← hwd8]; exact va_up_self _ _ _
  have hk8 : ∀ a, a ≠ h0 → a ≠ ar0 → a ≠ ar1 → a ≠ ar2 → a ≠ ar3 → wd8 a = w a := fun a g0 gar0 gar1 gar2 gar3 => by rw [← hwd8]; exact (va_up_ne _ _ g0).trans (hk7 a g0 gar0 gar1 gar2 gar3)
  have hI : Hv E A wd8 H := by rw [← hwd8]; exact hI
  clear hwd8
  refine lv_aload_n hx hb dX4_init_39 rfl (lv_at hl 0 rfl) ?_
  refine lv_sipush (v := 520) hx hb dX4_init_40 (by decide) ?_
  refine wr_newi (N := 520) hx hb (hts (.arrayClass .int) (by decide +kernel)) hT hI hS hA (by decide) (by decide) (by decide) (Nat.le_of_ble_eq_true rfl) (Nat.le_of_ble_eq_true rfl) dX4_init_43 (fun ar4 H har4 hI hS => ?_)
  have har0_ar4 : ar0 ≠ ar4 := nw_ne hf8_ar0 har4
  have har1_ar4 : ar1 ≠ ar4 := nw_ne hf8_ar1 har4
  have har2_ar4 : ar2 ≠ ar4 := nw_ne hf8_ar2 har4
  have har3_ar4 : ar3 ≠ ar4 := nw_ne hf8_ar3 har4
  have hh0_ar4 : h0 ≠ ar4 := nw_ne hf8_h0 har4
  have hn_ar4 : w ar4 = none := (hk8 ar4 hh0_ar4.symm har0_ar4.symm har1_ar4.symm har2_ar4.symm har3_ar4.symm).symm.trans har4
  obtain ⟨wd9, hwd9⟩ : ∃ wd9 : Wd, va_up wd8 ar4 (some (eI E 520 (fun _ => 0))) = wd9 := ⟨_, rfl⟩
  have hf9_ar0 : wd9 ar0 = some (eI E 12 (fun _ => 0)) := by rw [← hwd9]; exact (va_up_ne _ _ har0_ar4).trans hf8_ar0
  have hf9_ar1 : wd9 ar1 = some (eI E 520 (fun _ => 0)) := by rw [← hwd9]; exact (va_up_ne _ _ har1_ar4).trans hf8_ar1
  have hf9_ar2 : wd9 ar2 = some (eI E 520 (fun _ => 0)) := by rw [← hwd9]; exact (va_up_ne _ _ har2_ar4).trans hf8_ar2
  have hf9_ar3 : wd9 ar3 = some (eI E 20800 (fun _ => 0)) := by rw [← hwd9]; exact (va_up_ne _ _ har3_ar4).trans hf8_ar3
  have hf9_h0 : wd9 h0 = some (.inr (3, [.int 0, .ref ar0, .int 0, .ref ar1, .ref ar2, .ref ar3, .int 0, .null, .null, .int 0, .null])) := by rw [← hwd9]; exact (va_up_ne _ _ hh0_ar4).trans hf8_h0
  have hf9_ar4 : wd9 ar4 = some (eI E 520 (fun _ => 0)) := by rw [← hwd9]; exact va_up_self _ _ _
  have hk9 : ∀ a, a ≠ h0 → a ≠ ar0 → a ≠ ar1 → a ≠ ar2 → a ≠ ar3 → a ≠ ar4 → wd9 a = w a := fun a g0 gar0 gar1 gar2 gar3 gz => by rw [← hwd9]; exact (va_up_ne _ _ gz).trans (hk8 a g0 gar0 gar1 gar2 gar3)
  have hI : Hv E A wd9 H := by rw [← hwd9]; exact hI
  clear hwd9
  refine wr_putF (ci := 3) (C := RX4) (T := TX4) (N := 11) (v := .ref ar4) (ty := .array .int) hx hb hts in_X4 tyX4 tyX4_ok nmX4 hown hT hI hS hf9_h0 rfl 7 (by decide) (hts (.fieldLink RX4 22 "CopyRowsModel" "classes" "[I") (by decide +kernel)) rfl hin rfl (by decide +kernel) rfl rfl (Nat.le_of_ble_eq_true rfl) dX4_init_45 (fun H locs hI hS => ?_)
  obtain ⟨wd10, hwd10⟩ : ∃ wd10 : Wd, va_up wd9 h0 (some (.inr (3, [.int 0, .ref ar0, .int 0, .ref ar1, .ref ar2, .ref ar3, .int 0, .ref ar4, .null, .int 0, .null]))) = wd10 := ⟨_, rfl⟩
  have hf10_ar0 : wd10 ar0 = some (eI E 12 (fun _ => 0)) := by rw [← hwd10]; exact (va_up_ne _ _ hh0_ar0.symm).trans hf9_ar0
  have hf10_ar1 : wd10 ar1 = some (eI E 520 (fun _ => 0)) := by rw [← hwd10]; exact (va_up_ne _ _ hh0_ar1.symm).trans hf9_ar1
  have hf10_ar2 : wd10 ar2 = some (eI E 520 (fun _ => 0)) := by rw [← hwd10]; exact (va_up_ne _ _ hh0_ar2.symm).trans hf9_ar2
  have hf10_ar3 : wd10 ar3 = some (eI E 20800 (fun _ => 0)) := by rw [← hwd10]; exact (va_up_ne _ _ hh0_ar3.symm).trans hf9_ar3
  have hf10_ar4 : wd10 ar4 = some (eI E 520 (fun _ => 0)) := by rw [← hwd10]; exact (va_up_ne _ _ hh0_ar4.symm).trans hf9_ar4
  have hf10_h0 : wd10 h0 = some (.inr (3, [.int 0, .ref ar0, .int 0, .ref ar1, .ref ar2, .ref ar3, .int 0, .ref ar4, .null, .int 0, .null])) := by rw [← hwd10]; exact va_up_self _ _ _
  have hk10 : ∀ a, a ≠ h0 → a ≠ ar0 → a ≠ ar1 → a ≠ ar2 → a ≠ ar3 → a ≠ ar4 → wd10 a = w a := fun a g0 gar0 gar1 gar2 gar3 gar4 => by rw [← hwd10]; exact (va_up_ne _ _ g0).trans (hk9 a g0 gar0 gar1 gar2 gar3 gar4)
  have hI : Hv E A wd10 H := by rw [← hwd10]; exact hI
  clear hwd10
  refine lv_aload_n hx hb dX4_init_48 rfl (lv_at hl 0 rfl) ?_
  refine lv_sipush (v := 520) hx hb dX4_init_49 (by decide) ?_
  refine wr_newi (N := 520) hx hb (hts (.arrayClass .int) (by decide +kernel)) hT hI hS hA (by decide) (by decide) (by decide) (Nat.le_of_ble_eq_true rfl) (Nat.le_of_ble_eq_true rfl) dX4_init_52 (fun ar5 H har5 hI hS => ?_)
  have har0_ar5 : ar0 ≠ ar5 := nw_ne hf10_ar0 har5
  have har1_ar5 : ar1 ≠ ar5 := nw_ne hf10_ar1 har5
  have har2_ar5 : ar2 ≠ ar5 := nw_ne hf10_ar2 har5
  have har3_ar5 : ar3 ≠ ar5 := nw_ne hf10_ar3 har5
  have har4_ar5 : ar4 ≠ ar5 := nw_ne hf10_ar4 har5
  have hh0_ar5 : h0 ≠ ar5 := nw_ne hf10_h0 har5
  have hn_ar5 : w ar5 = none := (hk10 ar5 hh0_ar5.symm har0_ar5.symm har1_ar5.symm har2_ar5.symm har3_ar5.symm har4_ar5.symm).symm.trans har5
  obtain ⟨wd11, hwd11⟩ : ∃ wd11 : Wd, va_up wd10 ar5 (some (eI E 520 (fun _ => 0))) = wd11 := ⟨_, rfl⟩
  have hf11_ar0 : wd11 ar0 = some (eI E 12 (fun _ => 0)) := by rw [← hwd11]; exact (va_up_ne _ _ har0_ar5).trans hf10_ar0
  have hf11_ar1 : wd11 ar1 = some (eI E 520 (fun _ => 0)) := by rw [← hwd11]; exact (va_up_ne _ _ har1_ar5).trans hf10_ar1
  have hf11_ar2 : wd11 ar2 = some (eI E 520 (fun _ => 0)) := by rw [← hwd11]; exact (va_up_ne _ _ har2_ar5).trans hf10_ar2
  have hf11_ar3 : wd11 ar3 = some (eI E 20800 (fun _ => 0)) := by rw [← hwd11]; exact (va_up_ne _ _ har3_ar5).trans hf10_ar3
  have hf11_ar4 : wd11 ar4 = some (eI E 520 (fun _ => 0)) := by rw [← hwd11]; exact (va_up_ne _ _ har4_ar5).trans hf10_ar4
  have hf11_h0 : wd11 h0 = some (.inr (3, [.int 0, .ref ar0, .int 0, .ref ar1, .ref ar2, .ref ar3, .int 0, .ref ar4, .null, .int 0, .null])) := by rw [← hwd11]; exact (va_up_ne _ _ hh0_ar5).trans hf10_h0
  have hf11_ar5 : wd11 ar5 = some (eI E 520 (fun _ => 0)) := by rw [← hwd11]; exact va_up_self _ _ _
  have hk11 : ∀ a, a ≠ h0 → a ≠ ar0 → a ≠ ar1 → a ≠ ar2 → a ≠ ar3 → a ≠ ar4 → a ≠ ar5 → wd11 a = w a := fun a g0 gar0 gar1 gar2 gar3 gar4 gz => by rw [← hwd11]; exact (va_up_ne _ _ gz).trans (hk10 a g0 gar0 gar1 gar2 gar3 gar4)
  have hI : Hv E A wd11 H := by rw [← hwd11]; exact hI
  clear hwd11
  refine wr_putF (ci := 3) (C := RX4) (T := TX4) (N := 11) (v := .ref ar5) (ty := .array .int) hx hb hts in_X4 tyX4 tyX4_ok nmX4 hown hT hI hS hf11_h0 rfl 8 (by decide) (hts (.fieldLink RX4 25 "CopyRowsModel" "numbers" "[I") (by decide +kernel)) rfl hin rfl (by decide +kernel) rfl rfl (Nat.le_of_ble_eq_true rfl) dX4_init_54 (fun H locs hI hS => ?_)
  obtain ⟨wd12, hwd12⟩ : ∃ wd12 : Wd, va_up wd11 h0 (some (.inr (3, [.int 0, .ref ar0, .int 0, .ref ar1, .ref ar2, .ref ar3, .int 0, .ref ar4, .ref ar5, .int 0, .null]))) = wd12 := ⟨_, rfl⟩
  have hf12_ar0 : wd12 ar0 = some (eI E 12 (fun _ => 0)) := by rw [← hwd12]; exact (va_up_ne _ _ hh0_ar0.symm).trans hf11_ar0
  have hf12_ar1 : wd12 ar1 = some (eI E 520 (fun _ => 0)) := by rw [← hwd12]; exact (va_up_ne _ _ hh0_ar1.symm).trans hf11_ar1
  have hf12_ar2 : wd12 ar2 = some (eI E 520 (fun _ => 0)) := by rw [← hwd12]; exact (va_up_ne _ _ hh0_ar2.symm).trans hf11_ar2
  have hf12_ar3 : wd12 ar3 = some (eI E 20800 (fun _ => 0)) := by rw [← hwd12]; exact (va_up_ne _ _ hh0_ar3.symm).trans hf11_ar3
  have hf12_ar4 : wd12 ar4 = some (eI E 520 (fun _ => 0)) := by rw [← hwd12]; exact (va_up_ne _ _ hh0_ar4.symm).trans hf11_ar4
  have hf12_ar5 : wd12 ar5 = some (eI E 520 (fun _ => 0)) := by rw [← hwd12]; exact (va_up_ne _ _ hh0_ar5.symm).trans hf11_ar5
  have hf12_h0 : wd12 h0 = some (.inr (3, [.int 0, .ref ar0, .int 0, .ref ar1, .ref ar2, .ref ar3, .int 0, .ref ar4, .ref ar5, .int 0, .null])) := by rw [← hwd12]; exact va_up_self _ _ _
  have hk12 : ∀ a, a ≠ h0 → a ≠ ar0 → a ≠ ar1 → a ≠ ar2 → a ≠ ar3 → a ≠ ar4 → a ≠ ar5 → wd12 a = w a := fun a g0 gar0 gar1 gar2 gar3 gar4 gar5 => by rw [← hwd12]; exact (va_up_ne _ _ g0).trans (hk11 a g0 gar0 gar1 gar2 gar3 gar4 gar5)
  have hI : Hv E A wd12 H := by rw [← hwd12]; exact hI
  clear hwd12
  refine lv_aload_n hx hb dX4_init_57 rfl (lv_at hl 0 rfl) ?_
  refine lv_bipush (v := 40) hx hb dX4_init_58 (by decide) ?_
  refine wr_newi (N := 40) hx hb (hts (.arrayClass .int) (by decide +kernel)) hT hI hS hA (by decide) (by decide) (by decide) (Nat.le_of_ble_eq_true rfl) (Nat.le_of_ble_eq_true rfl) dX4_init_60 (fun ar6 H har6 hI hS => ?_)
  have har0_ar6 : ar0 ≠ ar6 := nw_ne hf12_ar0 har6
  have har1_ar6 : ar1 ≠ ar6 := nw_ne hf12_ar1 har6
  have har2_ar6 : ar2 ≠ ar6 := nw_ne hf12_ar2 har6
  have har3_ar6 : ar3 ≠ ar6 := nw_ne hf12_ar3 har6
  have har4_ar6 : ar4 ≠ ar6 := nw_ne hf12_ar4 har6
  have har5_ar6 : ar5 ≠ ar6 := nw_ne hf12_ar5 har6
  have hh0_ar6 : h0 ≠ ar6 := nw_ne hf12_h0 har6
  have hn_ar6 : w ar6 = none := (hk12 ar6 hh0_ar6.symm har0_ar6.symm har1_ar6.symm har2_ar6.symm har3_ar6.symm har4_ar6.symm har5_ar6.symm).symm.trans har6
  obtain ⟨wd13, hwd13⟩ : ∃ wd13 : Wd, va_up wd12 ar6 (some (eI E 40 (fun _ => 0))) = wd13 := ⟨_, rfl⟩
  have hf13_ar0 : wd13 ar0 = some (eI E 12 (fun _ => 0)) := by rw [← hwd13]; exact (va_up_ne _ _ har0_ar6).trans hf12_ar0
  have hf13_ar1 : wd13 ar1 = some (eI E 520 (fun _ => 0)) := by rw [← hwd13]; exact (va_up_ne _ _ har1_ar6).trans hf12_ar1
  have hf13_ar2 : wd13 ar2 = some (eI E 520 (fun _ => 0)) := by rw [← hwd13]; exact (va_up_ne _ _ har2_ar6).trans hf12_ar2
  have hf13_ar3 : wd13 ar3 = some (eI E 20800 (fun _ => 0)) := by rw [← hwd13]; exact (va_up_ne _ _ har3_ar6).trans hf12_ar3
  have hf13_ar4 : wd13 ar4 = some (eI E 520 (fun _ => 0)) := by rw [← hwd13]; exact (va_up_ne _ _ har4_ar6).trans hf12_ar4
  have hf13_ar5 : wd13 ar5 = some (eI E 520 (fun _ => 0)) := by rw [← hwd13]; exact (va_up_ne _ _ har5_ar6).trans hf12_ar5
  have hf13_h0 : wd13 h0 = some (.inr (3, [.int 0, .ref ar0, .int 0, .ref ar1, .ref ar2, .ref ar3, .int 0, .ref ar4, .ref ar5, .int 0, .null])) := by rw [← hwd13]; exact (va_up_ne _ _ hh0_ar6).trans hf12_h0
  have hf13_ar6 : wd13 ar6 = some (eI E 40 (fun _ => 0)) := by rw [← hwd13]; exact va_up_self _ _ _
  have hk13 : ∀ a, a ≠ h0 → a ≠ ar0 → a ≠ ar1 → a ≠ ar2 → a ≠ ar3 → a ≠ ar4 → a ≠ ar5 → a ≠ ar6 → wd13 a = w a := fun a g0 gar0 gar1 gar2 gar3 gar4 gar5 gz => by rw [← hwd13]; exact (va_up_ne _ _ gz).trans (hk12 a g0 gar0 gar1 gar2 gar3 gar4 gar5)
  have hI : Hv E A wd13 H := by rw [← hwd13]; exact hI
  clear hwd13
  refine wr_putF (ci := 3) (C := RX4) (T := TX4) (N := 11) (v := .ref ar6) (ty := .array .int) hx hb hts in_X4 tyX4 tyX4_ok nmX4 hown hT hI hS hf13_h0 rfl 10 (by decide) (hts (.fieldLink RX4 28 "CopyRowsModel" "third" "[I") (by decide +kernel)) rfl hin rfl (by decide +kernel) rfl rfl (Nat.le_of_ble_eq_true rfl) dX4_init_62 (fun H locs hI hS => ?_)
  obtain ⟨wd14, hwd14⟩ : ∃ wd14 : Wd, va_up wd13 h0 (some (.inr (3, [.int 0, .ref ar0, .int 0, .ref ar1, .ref ar2, .ref ar3, .int 0, .ref ar4, .ref ar5, .int 0, .ref ar6]))) = wd14 := ⟨_, rfl⟩
  have hf14_ar0 : wd14 ar0 = some (eI E 12 (fun _ => 0)) := by rw [← hwd14]; exact (va_up_ne _ _ hh0_ar0.symm).trans hf13_ar0
  have hf14_ar1 : wd14 ar1 = some (eI E 520 (fun _ => 0)) := by rw [← hwd14]; exact (va_up_ne _ _ hh0_ar1.symm).trans hf13_ar1
  have hf14_ar2 : wd14 ar2 = some (eI E 520 (fun _ => 0)) := by rw [← hwd14]; exact (va_up_ne _ _ hh0_ar2.symm).trans hf13_ar2
  have hf14_ar3 : wd14 ar3 = some (eI E 20800 (fun _ => 0)) := by rw [← hwd14]; exact (va_up_ne _ _ hh0_ar3.symm).trans hf13_ar3
  have hf14_ar4 : wd14 ar4 = some (eI E 520 (fun _ => 0)) := by rw [← hwd14]; exact (va_up_ne _ _ hh0_ar4.symm).trans hf13_ar4
  have hf14_ar5 : wd14 ar5 = some (eI E 520 (fun _ => 0)) := by rw [← hwd14]; exact (va_up_ne _ _ hh0_ar5.symm).trans hf13_ar5
  have hf14_ar6 : wd14 ar6 = some (eI E 40 (fun _ => 0)) := by rw [← hwd14]; exact (va_up_ne _ _ hh0_ar6.symm).trans hf13_ar6
  have hf14_h0 : wd14 h0 = some (.inr (3, [.int 0, .ref ar0, .int 0, .ref ar1, .ref ar2, .ref ar3, .int 0, .ref ar4, .ref ar5, .int 0, .ref ar6])) := by rw [← hwd14]; exact va_up_self _ _ _
  have hk14 : ∀ a, a ≠ h0 → a ≠ ar0 → a ≠ ar1 → a ≠ ar2 → a ≠ ar3 → a ≠ ar4 → a ≠ ar5 → a ≠ ar6 → wd14 a = w a := fun a g0 gar0 gar1 gar2 gar3 gar4 gar5 gar6 => by rw [← hwd14]; exact (va_up_ne _ _ g0).trans (hk13 a g0 gar0 gar1 gar2 gar3 gar4 gar5 gar6)
  have hI : Hv E A wd14 H := by rw [← hwd14]; exact hI
  clear hwd14
  refine lv_iconst (v := 0) hx hb dX4_init_65 (by decide) ?_
  refine lv_istore_n (lv' := [(1, .int 0), (0, .ref h0)]) hx hb dX4_init_66 rfl hl (by decide) rfl (fun ls hl => ?_)
  have hR : Rm E (0, (fun k9 => if k9 < 0 then -1 else 0), 0, fun _ => 0, fun _ => 0, fun _ _ => 0, 0, fun _ => 0, fun _ => 0, 0) (h0, ar0, ar1, ar2, ar3, ar4, ar5, ar6) (fun _ => 0) wd14 := ⟨hf14_h0, by rw [show plF ((0, (fun k9 => if k9 < 0 then -1 else 0), 0, fun _ => 0, fun _ => 0, fun _ _ => 0, 0, fun _ => 0, fun _ => 0, 0) : Sx) = fun _ => 0 from by funext q9; unfold plF; split <;> rfl]; exact hf14_ar0, hf14_ar1, hf14_ar2, by rw [show itF ((0, (fun k9 => if k9 < 0 then -1 else 0), 0, fun _ => 0, fun _ => 0, fun _ _ => 0, 0, fun _ => 0, fun _ => 0, 0) : Sx) = fun _ => 0 from by funext q9; unfold itF; split <;> rfl]; exact hf14_ar3, hf14_ar4, hf14_ar5, hf14_ar6, hh0_ar0, hh0_ar1, hh0_ar2, hh0_ar3, hh0_ar4, hh0_ar5, hh0_ar6, har0_ar1, har0_ar2, har0_ar3, har0_ar4, har0_ar5, har0_ar6, har1_ar2, har1_ar3, har1_ar4, har1_ar5, har1_ar6, har2_ar3, har2_ar4, har2_ar5, har2_ar6, har3_ar4, har3_ar5, har3_ar6, har4_ar5, har4_ar6, har5_ar6⟩
  have hkp : ∀ a x, a ≠ h0 → w a = some x → wd14 a = some x := fun a x h1 h2 => (hk14 a h1 (nw_ne h2 hn_ar0) (nw_ne h2 hn_ar1) (nw_ne h2 hn_ar2) (nw_ne h2 hn_ar3) (nw_ne h2 hn_ar4) (nw_ne h2 hn_ar5) (nw_ne h2 hn_ar6)).trans h2
  refine lp_w (ι := Nat) (fun q9 => 12 - q9) (fun q9 H locs ls => (q9 ≤ 12) ∧ (∃ w9, Hv E A w9 H ∧ Rm E (0, (fun k9 => if k9 < q9 then -1 else 0), 0, fun _ => 0, fun _ => 0, fun _ _ => 0, 0, fun _ => 0, fun _ => 0, 0) (h0, ar0, ar1, ar2, ar3, ar4, ar5, ar6) (fun _ => 0) w9 ∧ ∀ a x, a ≠ h0 → w a = some x → w9 a = some x) ∧ va_S A s.heap H locs ∧ lv_has ls 2 [(0, .ref h0), (1, .int (nI q9))]) ?_ 0 _ _ _ ⟨Nat.zero_le _, ⟨_, hI, hR, hkp⟩, hS, lv_sub hl [1, 0] rfl⟩
  rintro t H locs ls ⟨ht, ⟨w9, hI, hR, hkp⟩, hS, hl⟩ ih
  refine lv_iload_n hx hb dX4_init_67 rfl (lv_at hl 1 rfl) ?_
  refine lv_bipush (v := 12) hx hb dX4_init_68 (by decide) ?_
  refine lv_icmp_ge (tgt := 86) hx hb dX4_init_70 (by decide) (fun c_8 => ?_) (fun c_8 => ?_)
  · have c_8 : 12 ≤ t := (nI_leI (a := 12) (b := t) (by omega) (by omega)).mp c_8
    exact re_v hx hb hr hlocks hT hA hS hI (⟨rfl, (h0, ar0, ar1, ar2, ar3, ar4, ar5, ar6), rfl, ⟨_, hR.pls (by funext q9; unfold plF; by_cases e9 : q9 < 12; (have e8 : q9 < t := by omega); (simp [sPl, Sz, e9, e8]); (simp [e9])) rfl rfl⟩, hkp, fun a ha => by
            rcases ha with rfl | rfl | rfl | rfl | rfl | rfl | rfl | rfl
            · exact Or.inl rfl
            · exact Or.inr hn_ar0
            · exact Or.inr hn_ar1
            · exact Or.inr hn_ar2
            · exact Or.inr hn_ar3
            · exact Or.inr hn_ar4
            · exact Or.inr hn_ar5
            · exact Or.inr hn_ar6⟩) (Nat.le_of_ble_eq_true rfl) (Nat.le_of_ble_eq_true rfl) dX4_init_86
  · have c_8 : ¬ 12 ≤ t := fun q => c_8 ((nI_leI (a := 12) (b := t) (by omega) (by omega)).mpr q)
    refine lv_aload_n hx hb dX4_init_73 rfl (lv_at hl 0 rfl) ?_
    refine wr_get (ci := 3) (C := RX4) (T := TX4) (N := 11) (v := .ref ar0) hx hb hts in_X4 hown hT hI hR.1 rfl 1 (by decide) (hts (.fieldLink RX4 7 "CopyRowsModel" "places" "[I") (by decide +kernel)) rfl dX4_init_74 ?_
    refine lv_iload_n hx hb dX4_init_77 rfl (lv_at hl 1 rfl) ?_
    refine lv_iconst (v := -1) hx hb dX4_init_78 (by decide) ?_
    refine wr_iastN (t := t) (n := 12) (f := plF (0, (fun k9 => if k9 < t then -1 else 0), 0, fun _ => 0, fun _ => 0, fun _ _ => 0, 0, fun _ => 0, fun _ => 0, 0)) hx hb hT hI hS hR.2.1 (by omega) (by omega) dX4_init_79 (fun H locs hI hS => ?_)
    have hR := hR.pl (j := t) (by omega) (-1)
    have hR : Rm E (0, (fun k9 => if k9 < (t + 1) then -1 else 0), 0, fun _ => 0, fun _ => 0, fun _ _ => 0, 0, fun _ => 0, fun _ => 0, 0) (h0, ar0, ar1, ar2, ar3, ar4, ar5, ar6) (fun _ => 0) _ := hR.pls (by funext q9; unfold plF; by_cases e9 : q9 = t; (subst e9; simp [sPl, uPl, upd]); (by_cases e8 : q9 < t; (have e7 : q9 < t + 1 := by omega); (simp [sPl, uPl, upd, e9, e8, e7]); (have e7 : ¬ q9 < t + 1 := by omega); (simp [sPl, uPl, upd, e9, e8, e7]))) rfl rfl
    refine lv_iinc (v := nI (t + 1)) (lv' := [(1, .int (nI (t + 1))), (0, .ref h0)]) hx hb dX4_init_80 hl (k := 1) rfl (nI_1 _) (by decide) rfl (fun ls hl => ?_)
    refine lv_goto (tgt := 67) hx hb dX4_init_83 (by decide) ?_
    refine ih (t + 1) _ _ _ ⟨by omega, ⟨_, hI, hR, fun a x h1 h2 => ?_⟩, hS, lv_sub hl [1, 0] rfl⟩ (by omega)
    rw [va_up_ne _ _ (nw_ne h2 hn_ar0)]
    exact hkp a x h1 h2
