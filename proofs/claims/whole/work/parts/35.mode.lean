theorem not_row {S : Sx} (hW : Wf S) (j : Nat) (h : ¬ vR S (sPl S j)) : sPl S j = -1 ∨ kdv S (sPl S j) = 6 := by
  rcases hW.1 j with q | q
  · exact Or.inl q
  · refine Or.inr ?_
    unfold kdv
    rw [if_pos (vL_neg (q.resolve_left h))]

set_option maxHeartbeats 4000000 in
set_option maxRecDepth 100000 in
theorem cc_X4_equal (l : Launch) (E : En) (A : Nat → Prop) (w : Wd) {S : Sx} {M : Md} {tt : Nat → Int32} (a b : Int32) (hW : Wf S) (hR : Rm E S M tt w) (hb9 : sNr S < 512 ∧ sNt S < 512 ∧ sNl S < 512) : Ct l yX4_equal wsX4_equal ({ frames := 2, cells := 0, slots := 0, locals := 45 } : Room) E A w [.ref (mH M), .int a, .int b] (fun r w' => PoM E M (sp_equal S a b) r w') 0 0 := by
  refine Met.ofW (cc := cX4_equal) (maxL := 5) (ret := (some .int)) (by decide) rfl ?_
  intro pp0 ee0 s m args below meth cc0 s₁ B hml hv
  obtain ⟨rfl, hT, hI, hA⟩ := hv
  have hx := B.exec
  have hb := B.bytes
  have hr := B.returns
  have hts := atoms_spec (ws := wsX4_equal) B.pre
  have hown : s.vm.findClass RX4 = some m.cls := findClass_of_methodNamed B.named
  have hlocks := B.notSynchronized
  have in_X4 : ∀ w ∈ wsX40, w ∈ wsX4_equal := by decide +kernel
  have hS : va_S A s.heap s.heap [] := va_S.rf
  have hl := lv_entry ([.ref (mH M), .int a, .int b]) (n := 5) (Nat.le_of_ble_eq_true rfl)
  rw [lg_entry_eq]
  generalize (lg_sl ([.ref (mH M), .int a, .int b]) ++ List.replicate (5 - (lg_sl ([.ref (mH M), .int a, .int b])).length) Slot.unset).toArray = ls at hl ⊢
  have hl : lv_has ls 5 [(0, .ref (mH M)), (1, .int a), (2, .int b)] := hl
  refine lv_iload_n hx hb dX4_equal_0 rfl (lv_at hl 1 rfl) ?_
  refine ca_S (As := [.int a]) (rest := []) ⟨hx, hb, hml, hown, hts⟩ (cc_X4_isPlace l E A _ a) (va_cwS 1 hts gX4_equal_X4_isPlace rfl rfl rfl (by decide +kernel) ⟨(Nat.le_of_ble_eq_true rfl), (Nat.le_of_ble_eq_true rfl)⟩) hT hI hA hS rfl rfl hl.1 (Nat.le_of_ble_eq_true rfl) dX4_equal_1 ⟨(Nat.le_of_ble_eq_true rfl), (Nat.le_of_ble_eq_true rfl)⟩ (fun r w_2 H locs hp_1 hI hS => ?_)
  obtain ⟨rfl, ⟨ho_3, rfl⟩ | ⟨ho_3, rfl⟩⟩ := hp_1
  · refine W.eq (g2 := F0 m 4 ls [.int 1]) rfl ?_
    refine lv_if_eq (tgt := 14) hx hb dX4_equal_4 (by decide) (fun c => absurd c (by decide)) (fun _ => ?_)
    refine lv_iload_n hx hb dX4_equal_7 rfl (lv_at hl 2 rfl) ?_
    refine ca_S (As := [.int b]) (rest := []) ⟨hx, hb, hml, hown, hts⟩ (cc_X4_isPlace l E A _ b) (va_cwS 1 hts gX4_equal_X4_isPlace rfl rfl rfl (by decide +kernel) ⟨(Nat.le_of_ble_eq_true rfl), (Nat.le_of_ble_eq_true rfl)⟩) hT hI hA hS rfl rfl hl.1 (Nat.le_of_ble_eq_true rfl) dX4_equal_8 ⟨(Nat.le_of_ble_eq_true rfl), (Nat.le_of_ble_eq_true rfl)⟩ (fun r w_5 H locs hp_4 hI hS => ?_)
    obtain ⟨rfl, ⟨ho_6, rfl⟩ | ⟨ho_6, rfl⟩⟩ := hp_4
    · refine W.eq (g2 := F0 m 11 ls [.int 1]) rfl ?_
      refine lv_if_ne (tgt := 17) hx hb dX4_equal_11 (by decide) (fun _ => ?_) (fun c => absurd c (by decide))
      obtain ⟨aj, haj, rfl⟩ := isP_nat ho_3
      obtain ⟨bj, hbj, rfl⟩ := isP_nat ho_6
      refine lv_aload_n hx hb dX4_equal_17 rfl (lv_at hl 0 rfl) ?_
      refine lv_iload_n hx hb dX4_equal_18 rfl (lv_at hl 1 rfl) ?_
      refine ca_V (As := [.int (nI aj)]) (rest := []) (r0 := (RX4, TX4, 11)) (ci := 3) ⟨hx, hb, hml, hown, hts⟩ (cc_X4_isRow l E A _ (by omega) hW hR) (cwV 1 hts gX4_equal_X4_isRow rfl rfl rfl (by decide +kernel) ⟨(Nat.le_of_ble_eq_true rfl), (Nat.le_of_ble_eq_true rfl)⟩) hT hI hA hS rfl hR.1 rfl rfl hl.1 (Nat.le_of_ble_eq_true rfl) dX4_equal_19 ⟨(Nat.le_of_ble_eq_true rfl), (Nat.le_of_ble_eq_true rfl)⟩ (fun r w_8 H locs hp_7 hI hS => ?_)
      obtain ⟨rfl, ⟨hr_9, rfl⟩ | ⟨hr_9, rfl⟩⟩ := hp_7
      · have hr_9n : ¬ sPl S aj = -1 := fun e9 => hr_9.1 (by rw [e9]; decide)
        have hr_9l := hW.ln (Or.inl hr_9)
        refine W.eq (g2 := F0 m 22 ls [.int 1]) rfl ?_
        refine lv_if_eq (tgt := 33) hx hb dX4_equal_22 (by decide) (fun c => absurd c (by decide)) (fun _ => ?_)
        refine lv_aload_n hx hb dX4_equal_25 rfl (lv_at hl 0 rfl) ?_
        refine lv_iload_n hx hb dX4_equal_26 rfl (lv_at hl 2 rfl) ?_
        refine ca_V (As := [.int (nI bj)]) (rest := []) (r0 := (RX4, TX4, 11)) (ci := 3) ⟨hx, hb, hml, hown, hts⟩ (cc_X4_isRow l E A _ (by omega) hW hR) (cwV 1 hts gX4_equal_X4_isRow rfl rfl rfl (by decide +kernel) ⟨(Nat.le_of_ble_eq_true rfl), (Nat.le_of_ble_eq_true rfl)⟩) hT hI hA hS rfl hR.1 rfl rfl hl.1 (Nat.le_of_ble_eq_true rfl) dX4_equal_27 ⟨(Nat.le_of_ble_eq_true rfl), (Nat.le_of_ble_eq_true rfl)⟩ (fun r w_11 H locs hp_10 hI hS => ?_)
        obtain ⟨rfl, ⟨hr_12, rfl⟩ | ⟨hr_12, rfl⟩⟩ := hp_10
        · have hr_12n : ¬ sPl S bj = -1 := fun e9 => hr_12.1 (by rw [e9]; decide)
          have hr_12l := hW.ln (Or.inl hr_12)
          refine W.eq (g2 := F0 m 30 ls [.int 1]) rfl ?_
          refine lv_if_ne (tgt := 54) hx hb dX4_equal_30 (by decide) (fun _ => ?_) (fun c => absurd c (by decide))
          refine lv_aload_n hx hb dX4_equal_54 rfl (lv_at hl 0 rfl) ?_
          refine lv_iload_n hx hb dX4_equal_55 rfl (lv_at hl 1 rfl) ?_
          refine ca_V (As := [.int (nI aj)]) (rest := []) (r0 := (RX4, TX4, 11)) (ci := 3) ⟨hx, hb, hml, hown, hts⟩ (cc_X4_kindOf l E A _ (by omega) hW hR) (cwV 1 hts gX4_equal_X4_kindOf rfl rfl rfl (by decide +kernel) ⟨(Nat.le_of_ble_eq_true rfl), (Nat.le_of_ble_eq_true rfl)⟩) hT hI hA hS rfl hR.1 rfl rfl hl.1 (Nat.le_of_ble_eq_true rfl) dX4_equal_56 ⟨(Nat.le_of_ble_eq_true rfl), (Nat.le_of_ble_eq_true rfl)⟩ (fun r w_14 H locs hp_13 hI hS => ?_)
          obtain ⟨rfl, rfl⟩ := hp_13
          rw [kp_ne hr_9n]
          refine W.eq (g2 := F0 m 59 ls [.int (kdv S (sPl S aj))]) rfl ?_
          refine lv_aload_n hx hb dX4_equal_59 rfl (lv_at hl 0 rfl) ?_
          refine lv_iload_n hx hb dX4_equal_60 rfl (lv_at hl 2 rfl) ?_
          refine ca_V (As := [.int (nI bj)]) (rest := [.int (kdv S (sPl S aj))]) (r0 := (RX4, TX4, 11)) (ci := 3) ⟨hx, hb, hml, hown, hts⟩ (cc_X4_kindOf l E A _ (by omega) hW hR) (cwV 1 hts gX4_equal_X4_kindOf rfl rfl rfl (by decide +kernel) ⟨(Nat.le_of_ble_eq_true rfl), (Nat.le_of_ble_eq_true rfl)⟩) hT hI hA hS rfl hR.1 rfl rfl hl.1 (Nat.le_of_ble_eq_true rfl) dX4_equal_61 ⟨(Nat.le_of_ble_eq_true rfl), (Nat.le_of_ble_eq_true rfl)⟩ (fun r w_16 H locs hp_15 hI hS => ?_)
          obtain ⟨rfl, rfl⟩ := hp_15
          rw [kp_ne hr_12n]
          refine W.eq (g2 := F0 m 64 ls [.int (kdv S (sPl S bj)), .int (kdv S (sPl S aj))]) rfl ?_
          refine lv_icmp_ne (tgt := 84) hx hb dX4_equal_64 (by decide) (fun c_17 => ?_) (fun c_17 => ?_)
          · refine lv_iconst (v := 0) hx hb dX4_equal_84 (by decide) ?_
            refine lv_istore_n (lv' := [(3, .int 0), (0, .ref (mH M)), (1, .int (nI aj)), (2, .int (nI bj))]) hx hb dX4_equal_85 rfl hl (by decide) rfl (fun ls hl => ?_)
            refine lv_iconst (v := 0) hx hb dX4_equal_86 (by decide) ?_
            refine lv_istore (lv' := [(4, .int 0), (3, .int 0), (0, .ref (mH M)), (1, .int (nI aj)), (2, .int (nI bj))]) hx hb dX4_equal_87 hl (by decide) rfl (fun ls hl => ?_)
            refine lv_iload_n hx hb dX4_equal_89 rfl (lv_at hl 1 rfl) ?_
            refine lv_if_eq (tgt := 142) hx hb dX4_equal_90 (by decide) (fun _ => ?_) (fun c => absurd c (by decide))
            refine lv_iload_n hx hb dX4_equal_142 rfl (lv_at hl 1 rfl) ?_
            refine lv_if_eq (tgt := 150) hx hb dX4_equal_143 (by decide) (fun _ => ?_) (fun c => absurd c (by decide))
            refine lv_iconst (v := 0) hx hb dX4_equal_150 (by decide) ?_
            exact re_i hx hb hr hlocks hT hA hS hI (PoM.of (by
                            unfold sp_equal
                            try simp only [pv_nI haj, pv_nI hbj]
                            have hnl : ¬ (kdv S (sPl S aj) = kdv S (sPl S bj) ∧ lnv S (sPl S aj) = lnv S (sPl S bj) ∧ ∀ k, k < lnv S (sPl S aj) → itv S (sPl S aj) k = itv S (sPl S bj) k) := (fun q9 => c_17 q9.1)
                            rw [if_neg (fun q9 => q9.elim ho_3 ho_6), if_neg (fun e9 => hnl (by rw [e9]; exact ⟨rfl, rfl, fun _ _ => rfl⟩)), if_neg (fun q9 => q9.elim hr_9n (fun q9 => q9.elim hr_12n (row_kd hW hr_9))), if_neg hnl]) hR) (Nat.le_of_ble_eq_true rfl) (Nat.le_of_ble_eq_true rfl) dX4_equal_151
          · refine lv_aload_n hx hb dX4_equal_67 rfl (lv_at hl 0 rfl) ?_
            refine lv_iload_n hx hb dX4_equal_68 rfl (lv_at hl 1 rfl) ?_
            refine ca_V (As := [.int (nI aj)]) (rest := []) (r0 := (RX4, TX4, 11)) (ci := 3) ⟨hx, hb, hml, hown, hts⟩ (cc_X4_lengthOf l E A _ (by omega) hW hR hr_9) (cwV 1 hts gX4_equal_X4_lengthOf rfl rfl rfl (by decide +kernel) ⟨(Nat.le_of_ble_eq_true rfl), (Nat.le_of_ble_eq_true rfl)⟩) hT hI hA hS rfl hR.1 rfl rfl hl.1 (Nat.le_of_ble_eq_true rfl) dX4_equal_69 ⟨(Nat.le_of_ble_eq_true rfl), (Nat.le_of_ble_eq_true rfl)⟩ (fun r w_19 H locs hp_18 hI hS => ?_)
            obtain ⟨rfl, rfl⟩ := hp_18
            refine W.eq (g2 := F0 m 72 ls [.int (nI (lnv S (sPl S aj)))]) rfl ?_
            refine lv_aload_n hx hb dX4_equal_72 rfl (lv_at hl 0 rfl) ?_
            refine lv_iload_n hx hb dX4_equal_73 rfl (lv_at hl 2 rfl) ?_
            refine ca_V (As := [.int (nI bj)]) (rest := [.int (nI (lnv S (sPl S aj)))]) (r0 := (RX4, TX4, 11)) (ci := 3) ⟨hx, hb, hml, hown, hts⟩ (cc_X4_lengthOf l E A _ (by omega) hW hR hr_12) (cwV 1 hts gX4_equal_X4_lengthOf rfl rfl rfl (by decide +kernel) ⟨(Nat.le_of_ble_eq_true rfl), (Nat.le_of_ble_eq_true rfl)⟩) hT hI hA hS rfl hR.1 rfl rfl hl.1 (Nat.le_of_ble_eq_true rfl) dX4_equal_74 ⟨(Nat.le_of_ble_eq_true rfl), (Nat.le_of_ble_eq_true rfl)⟩ (fun r w_21 H locs hp_20 hI hS => ?_)
            obtain ⟨rfl, rfl⟩ := hp_20
            refine W.eq (g2 := F0 m 77 ls [.int (nI (lnv S (sPl S bj))), .int (nI (lnv S (sPl S aj)))]) rfl ?_
            refine lv_icmp_ne (tgt := 84) hx hb dX4_equal_77 (by decide) (fun c_22 => ?_) (fun c_22 => ?_)
            · have c_22 : ¬ lnv S (sPl S aj) = lnv S (sPl S bj) := fun q => c_22 ((nI_eq (a := lnv S (sPl S aj)) (b := lnv S (sPl S bj)) (by omega) (by omega)).mpr q)
              refine lv_iconst (v := 0) hx hb dX4_equal_84 (by decide) ?_
              refine lv_istore_n (lv' := [(3, .int 0), (0, .ref (mH M)), (1, .int (nI aj)), (2, .int (nI bj))]) hx hb dX4_equal_85 rfl hl (by decide) rfl (fun ls hl => ?_)
              refine lv_iconst (v := 0) hx hb dX4_equal_86 (by decide) ?_
              refine lv_istore (lv' := [(4, .int 0), (3, .int 0), (0, .ref (mH M)), (1, .int (nI aj)), (2, .int (nI bj))]) hx hb dX4_equal_87 hl (by decide) rfl (fun ls hl => ?_)
              refine lv_iload_n hx hb dX4_equal_89 rfl (lv_at hl 1 rfl) ?_
              refine lv_if_eq (tgt := 142) hx hb dX4_equal_90 (by decide) (fun _ => ?_) (fun c => absurd c (by decide))
              refine lv_iload_n hx hb dX4_equal_142 rfl (lv_at hl 1 rfl) ?_
              refine lv_if_eq (tgt := 150) hx hb dX4_equal_143 (by decide) (fun _ => ?_) (fun c => absurd c (by decide))
              refine lv_iconst (v := 0) hx hb dX4_equal_150 (by decide) ?_
              exact re_i hx hb hr hlocks hT hA hS hI (PoM.of (by
                                unfold sp_equal
                                try simp only [pv_nI haj, pv_nI hbj]
                                have hnl : ¬ (kdv S (sPl S aj) = kdv S (sPl S bj) ∧ lnv S (sPl S aj) = lnv S (sPl S bj) ∧ ∀ k, k < lnv S (sPl S aj) → itv S (sPl S aj) k = itv S (sPl S bj) k) := (fun q9 => c_22 q9.2.1)
                                rw [if_neg (fun q9 => q9.elim ho_3 ho_6), if_neg (fun e9 => hnl (by rw [e9]; exact ⟨rfl, rfl, fun _ _ => rfl⟩)), if_neg (fun q9 => q9.elim hr_9n (fun q9 => q9.elim hr_12n (row_kd hW hr_9))), if_neg hnl]) hR) (Nat.le_of_ble_eq_true rfl) (Nat.le_of_ble_eq_true rfl) dX4_equal_151
            · have c_22 : lnv S (sPl S aj) = lnv S (sPl S bj) := (nI_eq (a := lnv S (sPl S aj)) (b := lnv S (sPl S bj)) (by omega) (by omega)).mp c_22
              refine lv_iconst (v := 1) hx hb dX4_equal_80 (by decide) ?_
              refine lv_goto (tgt := 85) hx hb dX4_equal_81 (by decide) ?_
              refine lv_istore_n (lv' := [(3, .int 1), (0, .ref (mH M)), (1, .int (nI aj)), (2, .int (nI bj))]) hx hb dX4_equal_85 rfl hl (by decide) rfl (fun ls hl => ?_)
              refine lv_iconst (v := 0) hx hb dX4_equal_86 (by decide) ?_
              refine lv_istore (lv' := [(4, .int 0), (3, .int 1), (0, .ref (mH M)), (1, .int (nI aj)), (2, .int (nI bj))]) hx hb dX4_equal_87 hl (by decide) rfl (fun ls hl => ?_)
              refine lp_w (ι := Nat) (fun t => lnv S (sPl S aj) - t) (fun t H locs ls => (t ≤ lnv S (sPl S aj) ∧ ∀ k, k < t → itv S (sPl S aj) k = itv S (sPl S bj) k) ∧ Hv E A w H ∧ va_S A s.heap H locs ∧ lv_has ls 5 [(0, .ref (mH M)), (1, .int (nI aj)), (2, .int (nI bj)), (3, .int 1), (4, .int (nI t))]) ?_ 0 _ _ _ ⟨⟨Nat.zero_le _, fun k h9 => absurd h9 (Nat.not_lt_zero _)⟩, hI, hS, lv_sub hl [2, 3, 4, 1, 0] rfl⟩
              intro t H locs ls hq ih
              obtain ⟨⟨ht, hall⟩, hI, hS, hl⟩ := hq
              refine lv_iload_n hx hb dX4_equal_89 rfl (lv_at hl 3 rfl) ?_
              refine lv_if_eq (tgt := 142) hx hb dX4_equal_90 (by decide) (fun c => absurd c (by decide)) (fun _ => ?_)
              refine lv_iload hx hb dX4_equal_93 (lv_at hl 4 rfl) ?_
              refine lv_aload_n hx hb dX4_equal_95 rfl (lv_at hl 0 rfl) ?_
              refine lv_iload_n hx hb dX4_equal_96 rfl (lv_at hl 1 rfl) ?_
              refine ca_V (As := [.int (nI aj)]) (rest := [.int (nI t)]) (r0 := (RX4, TX4, 11)) (ci := 3) ⟨hx, hb, hml, hown, hts⟩ (cc_X4_lengthOf l E A _ (by omega) hW hR hr_9) (cwV 1 hts gX4_equal_X4_lengthOf rfl rfl rfl (by decide +kernel) ⟨(Nat.le_of_ble_eq_true rfl), (Nat.le_of_ble_eq_true rfl)⟩) hT hI hA hS rfl hR.1 rfl rfl hl.1 (Nat.le_of_ble_eq_true rfl) dX4_equal_97 ⟨(Nat.le_of_ble_eq_true rfl), (Nat.le_of_ble_eq_true rfl)⟩ (fun r w_24 H locs hp_23 hI hS => ?_)
              obtain ⟨rfl, rfl⟩ := hp_23
              refine W.eq (g2 := F0 m 100 ls [.int (nI (lnv S (sPl S aj))), .int (nI t)]) rfl ?_
              refine lv_icmp_ge (tgt := 142) hx hb dX4_equal_100 (by decide) (fun c_25 => ?_) (fun c_25 => ?_)
              · have c_25 : lnv S (sPl S aj) ≤ t := (nI_leI (a := lnv S (sPl S aj)) (b := t) (by omega) (by omega)).mp c_25
                refine lv_iload_n hx hb dX4_equal_142 rfl (lv_at hl 3 rfl) ?_
                refine lv_if_eq (tgt := 150) hx hb dX4_equal_143 (by decide) (fun c => absurd c (by decide)) (fun _ => ?_)
                refine lv_iconst (v := 1) hx hb dX4_equal_146 (by decide) ?_
                refine lv_goto (tgt := 151) hx hb dX4_equal_147 (by decide) ?_
                exact re_i hx hb hr hlocks hT hA hS hI (PoM.of (by
                                    unfold sp_equal
                                    try simp only [pv_nI haj, pv_nI hbj]
                                    rw [if_neg (fun q9 => q9.elim ho_3 ho_6)]
                                    by_cases e9 : sPl S aj = sPl S bj
                                    · rw [if_pos e9]
                                    · rw [if_neg e9, if_neg (fun q9 => q9.elim hr_9n (fun q9 => q9.elim hr_12n (row_kd hW hr_9))), if_pos ⟨c_17, c_22, fun k h9 => hall k (by omega)⟩]) hR) (Nat.le_of_ble_eq_true rfl) (Nat.le_of_ble_eq_true rfl) dX4_equal_151
              · have c_25 : ¬ lnv S (sPl S aj) ≤ t := fun q => c_25 ((nI_leI (a := lnv S (sPl S aj)) (b := t) (by omega) (by omega)).mpr q)
                refine lv_aload_n hx hb dX4_equal_103 rfl (lv_at hl 0 rfl) ?_
                refine lv_aload_n hx hb dX4_equal_104 rfl (lv_at hl 0 rfl) ?_
                refine wr_get (ci := 3) (C := RX4) (T := TX4) (N := 11) (v := .ref (mP M)) hx hb hts in_X4 hown hT hI hR.1 rfl 1 (by decide) (hts (.fieldLink RX4 7 "CopyRowsModel" "places" "[I") (by decide +kernel)) rfl dX4_equal_105 ?_
                refine lv_iload_n hx hb dX4_equal_108 rfl (lv_at hl 1 rfl) ?_
                refine wr_ialdN (t := aj) (n := 12) (f := plF S) hx hb hT hI hR.2.1 (by omega) (by omega) dX4_equal_109 ?_
                refine W.eq (g2 := F0 m 110 ls [.int (sPl S aj), .ref (mH M)]) (by rw [plF_at (by omega)]) ?_
                refine lv_iload hx hb dX4_equal_110 (lv_at hl 4 rfl) ?_
                refine ca_V (As := [.int (sPl S aj), .int (nI t)]) (rest := []) (r0 := (RX4, TX4, 11)) (ci := 3) ⟨hx, hb, hml, hown, hts⟩ (cM_get l E A _ hr_9 (by have := hW.2.2.2; omega) (by omega) hR) (cwV 2 hts gX4_equal_X4_get rfl rfl rfl (by decide +kernel) ⟨(Nat.le_of_ble_eq_true rfl), (Nat.le_of_ble_eq_true rfl)⟩) hT hI hA hS rfl hR.1 rfl rfl hl.1 (Nat.le_of_ble_eq_true rfl) dX4_equal_112 ⟨(Nat.le_of_ble_eq_true rfl), (Nat.le_of_ble_eq_true rfl)⟩ (fun r w_27 H locs hp_26 hI hS => ?_)
                obtain ⟨rfl, rfl⟩ := hp_26
                refine W.eq (g2 := F0 m 115 ls [.int (itv S (sPl S aj) t)]) rfl ?_
                refine lv_aload_n hx hb dX4_equal_115 rfl (lv_at hl 0 rfl) ?_
                refine lv_aload_n hx hb dX4_equal_116 rfl (lv_at hl 0 rfl) ?_
                refine wr_get (ci := 3) (C := RX4) (T := TX4) (N := 11) (v := .ref (mP M)) hx hb hts in_X4 hown hT hI hR.1 rfl 1 (by decide) (hts (.fieldLink RX4 7 "CopyRowsModel" "places" "[I") (by decide +kernel)) rfl dX4_equal_117 ?_
                refine lv_iload_n hx hb dX4_equal_120 rfl (lv_at hl 2 rfl) ?_
                refine wr_ialdN (t := bj) (n := 12) (f := plF S) hx hb hT hI hR.2.1 (by omega) (by omega) dX4_equal_121 ?_
                refine W.eq (g2 := F0 m 122 ls [.int (sPl S bj), .ref (mH M), .int (itv S (sPl S aj) t)]) (by rw [plF_at (by omega)]) ?_
                refine lv_iload hx hb dX4_equal_122 (lv_at hl 4 rfl) ?_
                refine ca_V (As := [.int (sPl S bj), .int (nI t)]) (rest := [.int (itv S (sPl S aj) t)]) (r0 := (RX4, TX4, 11)) (ci := 3) ⟨hx, hb, hml, hown, hts⟩ (cM_get l E A _ hr_12 (by have := hW.2.2.2; omega) (by omega) hR) (cwV 2 hts gX4_equal_X4_get rfl rfl rfl (by decide +kernel) ⟨(Nat.le_of_ble_eq_true rfl), (Nat.le_of_ble_eq_true rfl)⟩) hT hI hA hS rfl hR.1 rfl rfl hl.1 (Nat.le_of_ble_eq_true rfl) dX4_equal_124 ⟨(Nat.le_of_ble_eq_true rfl), (Nat.le_of_ble_eq_true rfl)⟩ (fun r w_29 H locs hp_28 hI hS => ?_)
                obtain ⟨rfl, rfl⟩ := hp_28
                refine W.eq (g2 := F0 m 127 ls [.int (itv S (sPl S bj) t), .int (itv S (sPl S aj) t)]) rfl ?_
                refine lv_icmp_ne (tgt := 134) hx hb dX4_equal_127 (by decide) (fun c_30 => ?_) (fun c_30 => ?_)
                · refine lv_iconst (v := 0) hx hb dX4_equal_134 (by decide) ?_
                  refine lv_istore_n (lv' := [(3, .int 0), (0, .ref (mH M)), (1, .int (nI aj)), (2, .int (nI bj)), (4, .int (nI t))]) hx hb dX4_equal_135 rfl hl (by decide) rfl (fun ls hl => ?_)
                  refine lv_iinc (v := nI (t + 1)) (lv' := [(4, .int (nI (t + 1))), (3, .int 0), (0, .ref (mH M)), (1, .int (nI aj)), (2, .int (nI bj))]) hx hb dX4_equal_136 hl (k := 4) rfl (nI_1 _) (by decide) rfl (fun ls hl => ?_)
                  refine lv_goto (tgt := 89) hx hb dX4_equal_139 (by decide) ?_
                  refine lv_iload_n hx hb dX4_equal_89 rfl (lv_at hl 1 rfl) ?_
                  refine lv_if_eq (tgt := 142) hx hb dX4_equal_90 (by decide) (fun _ => ?_) (fun c => absurd c (by decide))
                  refine lv_iload_n hx hb dX4_equal_142 rfl (lv_at hl 1 rfl) ?_
                  refine lv_if_eq (tgt := 150) hx hb dX4_equal_143 (by decide) (fun _ => ?_) (fun c => absurd c (by decide))
                  refine lv_iconst (v := 0) hx hb dX4_equal_150 (by decide) ?_
                  exact re_i hx hb hr hlocks hT hA hS hI (PoM.of (by
                                        unfold sp_equal
                                        try simp only [pv_nI haj, pv_nI hbj]
                                        have hnl : ¬ (kdv S (sPl S aj) = kdv S (sPl S bj) ∧ lnv S (sPl S aj) = lnv S (sPl S bj) ∧ ∀ k, k < lnv S (sPl S aj) → itv S (sPl S aj) k = itv S (sPl S bj) k) := (fun q9 => c_30 (q9.2.2 t (by omega)))
                                        rw [if_neg (fun q9 => q9.elim ho_3 ho_6), if_neg (fun e9 => hnl (by rw [e9]; exact ⟨rfl, rfl, fun _ _ => rfl⟩)), if_neg (fun q9 => q9.elim hr_9n (fun q9 => q9.elim hr_12n (row_kd hW hr_9))), if_neg hnl]) hR) (Nat.le_of_ble_eq_true rfl) (Nat.le_of_ble_eq_true rfl) dX4_equal_151
                · refine lv_iconst (v := 1) hx hb dX4_equal_130 (by decide) ?_
                  refine lv_goto (tgt := 135) hx hb dX4_equal_131 (by decide) ?_
                  refine lv_istore_n (lv' := [(3, .int 1), (0, .ref (mH M)), (1, .int (nI aj)), (2, .int (nI bj)), (4, .int (nI t))]) hx hb dX4_equal_135 rfl hl (by decide) rfl (fun ls hl => ?_)
                  refine lv_iinc (v := nI (t + 1)) (lv' := [(4, .int (nI (t + 1))), (3, .int 1), (0, .ref (mH M)), (1, .int (nI aj)), (2, .int (nI bj))]) hx hb dX4_equal_136 hl (k := 4) rfl (nI_1 _) (by decide) rfl (fun ls hl => ?_)
                  refine lv_goto (tgt := 89) hx hb dX4_equal_139 (by decide) ?_
                  exact ih (t + 1) _ _ _ ⟨⟨by omega, fun k hk9 => by rcases Nat.lt_or_ge k t with q | q; exact hall k q; rw [show k = t by omega]; exact c_30⟩, hI, hS, lv_sub hl [2, 3, 4, 1, 0] rfl⟩ (by omega)
        · refine W.eq (g2 := F0 m 30 ls [.int 0]) rfl ?_
          refine lv_if_ne (tgt := 54) hx hb dX4_equal_30 (by decide) (fun c => absurd c (by decide)) (fun _ => ?_)
          refine lv_aload_n hx hb dX4_equal_33 rfl (lv_at hl 0 rfl) ?_
          refine wr_get (ci := 3) (C := RX4) (T := TX4) (N := 11) (v := .ref (mP M)) hx hb hts in_X4 hown hT hI hR.1 rfl 1 (by decide) (hts (.fieldLink RX4 7 "CopyRowsModel" "places" "[I") (by decide +kernel)) rfl dX4_equal_34 ?_
          refine lv_iload_n hx hb dX4_equal_37 rfl (lv_at hl 1 rfl) ?_
          refine wr_ialdN (t := aj) (n := 12) (f := plF S) hx hb hT hI hR.2.1 (by omega) (by omega) dX4_equal_38 ?_
          refine W.eq (g2 := F0 m 39 ls [.int (sPl S aj)]) (by rw [plF_at (by omega)]) ?_
          refine lv_aload_n hx hb dX4_equal_39 rfl (lv_at hl 0 rfl) ?_
          refine wr_get (ci := 3) (C := RX4) (T := TX4) (N := 11) (v := .ref (mP M)) hx hb hts in_X4 hown hT hI hR.1 rfl 1 (by decide) (hts (.fieldLink RX4 7 "CopyRowsModel" "places" "[I") (by decide +kernel)) rfl dX4_equal_40 ?_
          refine lv_iload_n hx hb dX4_equal_43 rfl (lv_at hl 2 rfl) ?_
          refine wr_ialdN (t := bj) (n := 12) (f := plF S) hx hb hT hI hR.2.1 (by omega) (by omega) dX4_equal_44 ?_
          refine W.eq (g2 := F0 m 45 ls [.int (sPl S bj), .int (sPl S aj)]) (by rw [plF_at (by omega)]) ?_
          refine lv_icmp_ne (tgt := 52) hx hb dX4_equal_45 (by decide) (fun c_31 => ?_) (fun c_31 => ?_)
          · refine lv_iconst (v := 0) hx hb dX4_equal_52 (by decide) ?_
            exact re_i hx hb hr hlocks hT hA hS hI (PoM.of (by
                            unfold sp_equal
                            try simp only [pv_nI haj, pv_nI hbj]
                            rw [if_neg (fun q9 => q9.elim ho_3 ho_6), if_neg c_31]
                            by_cases e9 : sPl S bj = -1
                            · rw [if_pos (Or.inr (Or.inl e9))]
                            · rw [if_neg (fun q9 => q9.elim hr_9n (fun q9 => q9.elim e9 (row_kd hW hr_9))), if_neg (fun q9 => row_kd hW hr_9 (q9.1.trans ((not_row hW bj hr_12).resolve_left e9)))]) hR) (Nat.le_of_ble_eq_true rfl) (Nat.le_of_ble_eq_true rfl) dX4_equal_53
          · refine lv_iconst (v := 1) hx hb dX4_equal_48 (by decide) ?_
            refine lv_goto (tgt := 53) hx hb dX4_equal_49 (by decide) ?_
            exact re_i hx hb hr hlocks hT hA hS hI (PoM.of (by
                            unfold sp_equal
                            try simp only [pv_nI haj, pv_nI hbj]
                            rw [if_neg (fun q9 => q9.elim ho_3 ho_6), if_pos c_31]) hR) (Nat.le_of_ble_eq_true rfl) (Nat.le_of_ble_eq_true rfl) dX4_equal_53
      · refine W.eq (g2 := F0 m 22 ls [.int 0]) rfl ?_
        refine lv_if_eq (tgt := 33) hx hb dX4_equal_22 (by decide) (fun _ => ?_) (fun c => absurd c (by decide))
        refine lv_aload_n hx hb dX4_equal_33 rfl (lv_at hl 0 rfl) ?_
        refine wr_get (ci := 3) (C := RX4) (T := TX4) (N := 11) (v := .ref (mP M)) hx hb hts in_X4 hown hT hI hR.1 rfl 1 (by decide) (hts (.fieldLink RX4 7 "CopyRowsModel" "places" "[I") (by decide +kernel)) rfl dX4_equal_34 ?_
        refine lv_iload_n hx hb dX4_equal_37 rfl (lv_at hl 1 rfl) ?_
        refine wr_ialdN (t := aj) (n := 12) (f := plF S) hx hb hT hI hR.2.1 (by omega) (by omega) dX4_equal_38 ?_
        refine W.eq (g2 := F0 m 39 ls [.int (sPl S aj)]) (by rw [plF_at (by omega)]) ?_
        refine lv_aload_n hx hb dX4_equal_39 rfl (lv_at hl 0 rfl) ?_
        refine wr_get (ci := 3) (C := RX4) (T := TX4) (N := 11) (v := .ref (mP M)) hx hb hts in_X4 hown hT hI hR.1 rfl 1 (by decide) (hts (.fieldLink RX4 7 "CopyRowsModel" "places" "[I") (by decide +kernel)) rfl dX4_equal_40 ?_
        refine lv_iload_n hx hb dX4_equal_43 rfl (lv_at hl 2 rfl) ?_
        refine wr_ialdN (t := bj) (n := 12) (f := plF S) hx hb hT hI hR.2.1 (by omega) (by omega) dX4_equal_44 ?_
        refine W.eq (g2 := F0 m 45 ls [.int (sPl S bj), .int (sPl S aj)]) (by rw [plF_at (by omega)]) ?_
        refine lv_icmp_ne (tgt := 52) hx hb dX4_equal_45 (by decide) (fun c_32 => ?_) (fun c_32 => ?_)
        · refine lv_iconst (v := 0) hx hb dX4_equal_52 (by decide) ?_
          exact re_i hx hb hr hlocks hT hA hS hI (PoM.of (by
                        unfold sp_equal
                        try simp only [pv_nI haj, pv_nI hbj]
                        rw [if_neg (fun q9 => q9.elim ho_3 ho_6), if_neg c_32, if_pos ((not_row hW aj hr_9).elim Or.inl (fun q9 => Or.inr (Or.inr q9)))]) hR) (Nat.le_of_ble_eq_true rfl) (Nat.le_of_ble_eq_true rfl) dX4_equal_53
        · refine lv_iconst (v := 1) hx hb dX4_equal_48 (by decide) ?_
          refine lv_goto (tgt := 53) hx hb dX4_equal_49 (by decide) ?_
          exact re_i hx hb hr hlocks hT hA hS hI (PoM.of (by
                        unfold sp_equal
                        try simp only [pv_nI haj, pv_nI hbj]
                        rw [if_neg (fun q9 => q9.elim ho_3 ho_6), if_pos c_32]) hR) (Nat.le_of_ble_eq_true rfl) (Nat.le_of_ble_eq_true rfl) dX4_equal_53
    · have ho_6 : oP b := Classical.not_not.mp ho_6
      refine W.eq (g2 := F0 m 11 ls [.int 0]) rfl ?_
      refine lv_if_ne (tgt := 17) hx hb dX4_equal_11 (by decide) (fun c => absurd c (by decide)) (fun _ => ?_)
      refine lv_ldc (v := -2000000001) hx hb hown (hts (.constant RX4 54 (-2000000001)) (by decide +kernel)) dX4_equal_14 ?_
      exact re_i hx hb hr hlocks hT hA hS hI (PoM.of (by
                unfold sp_equal
                rw [if_pos (Or.inr (ho_6))]) hR) (Nat.le_of_ble_eq_true rfl) (Nat.le_of_ble_eq_true rfl) dX4_equal_16
  · have ho_3 : oP a := Classical.not_not.mp ho_3
    refine W.eq (g2 := F0 m 4 ls [.int 0]) rfl ?_
    refine lv_if_eq (tgt := 14) hx hb dX4_equal_4 (by decide) (fun _ => ?_) (fun c => absurd c (by decide))
    refine lv_ldc (v := -2000000001) hx hb hown (hts (.constant RX4 54 (-2000000001)) (by decide +kernel)) dX4_equal_14 ?_
    exact re_i hx hb hr hlocks hT hA hS hI (PoM.of (by
            unfold sp_equal
            rw [if_pos (Or.inl ho_3)]) hR) (Nat.le_of_ble_eq_true rfl) (Nat.le_of_ble_eq_true rfl) dX4_equal_16

set_option maxHeartbeats 4000000 in
set_option maxRecDepth 100000 in
theorem cc_X4_held (l : Launch) (E : En) (A : Nat → Prop) (w : Wd) {S : Sx} {M : Md} {tt : Nat → Int32} (p : Int32) (hW : Wf S) (hR : Rm E S M tt w) (hb9 : sNr S < 512 ∧ sNt S < 512 ∧ sNl S < 512) : Ct l yX4_held wsX4_held ({ frames := 2, cells := 0, slots := 0, locals := 45 } : Room) E A w [.ref (mH M), .int p] (fun r w' => PoM E M (sp_held S p) r w') 0 0 := by
  refine Met.ofW (cc := cX4_held) (maxL := 7) (ret := (some .int)) (by decide) rfl ?_
  intro pp0 ee0 s m args below meth cc0 s₁ B hml hv
  obtain ⟨rfl, hT, hI, hA⟩ := hv
  have hx := B.exec
  have hb := B.bytes
  have hr := B.returns
  have hts := atoms_spec (ws := wsX4_held) B.pre
  have hown : s.vm.findClass RX4 = some m.cls := findClass_of_methodNamed B.named
  have hlocks := B.notSynchronized
  have in_X4 : ∀ w ∈ wsX40, w ∈ wsX4_held := by decide +kernel
  have hS : va_S A s.heap s.heap [] := va_S.rf
  have hl := lv_entry ([.ref (mH M), .int p]) (n := 7) (Nat.le_of_ble_eq_true rfl)
  rw [lg_entry_eq]
  generalize (lg_sl ([.ref (mH M), .int p]) ++ List.replicate (7 - (lg_sl ([.ref (mH M), .int p])).length) Slot.unset).toArray = ls at hl ⊢
  have hl : lv_has ls 7 [(0, .ref (mH M)), (1, .int p)] := hl
  refine lv_iload_n hx hb dX4_held_0 rfl (lv_at hl 1 rfl) ?_
  refine ca_S (As := [.int p]) (rest := []) ⟨hx, hb, hml, hown, hts⟩ (cc_X4_isPlace l E A _ p) (va_cwS 1 hts gX4_held_X4_isPlace rfl rfl rfl (by decide +kernel) ⟨(Nat.le_of_ble_eq_true rfl), (Nat.le_of_ble_eq_true rfl)⟩) hT hI hA hS rfl rfl hl.1 (Nat.le_of_ble_eq_true rfl) dX4_held_1 ⟨(Nat.le_of_ble_eq_true rfl), (Nat.le_of_ble_eq_true rfl)⟩ (fun r w_2 H locs hp_1 hI hS => ?_)
  obtain ⟨rfl, ⟨ho_3, rfl⟩ | ⟨ho_3, rfl⟩⟩ := hp_1
  · refine W.eq (g2 := F0 m 4 ls [.int 1]) rfl ?_
    refine lv_if_ne (tgt := 10) hx hb dX4_held_4 (by decide) (fun _ => ?_) (fun c => absurd c (by decide))
    obtain ⟨pj, hpj, rfl⟩ := isP_nat ho_3
    refine lv_aload_n hx hb dX4_held_10 rfl (lv_at hl 0 rfl) ?_
    refine wr_get (ci := 3) (C := RX4) (T := TX4) (N := 11) (v := .ref (mP M)) hx hb hts in_X4 hown hT hI hR.1 rfl 1 (by decide) (hts (.fieldLink RX4 7 "CopyRowsModel" "places" "[I") (by decide +kernel)) rfl dX4_held_11 ?_
    refine lv_iload_n hx hb dX4_held_14 rfl (lv_at hl 1 rfl) ?_
    refine wr_ialdN (t := pj) (n := 12) (f := plF S) hx hb hT hI hR.2.1 (by omega) (by omega) dX4_held_15 ?_
    refine W.eq (g2 := F0 m 16 ls [.int (sPl S pj)]) (by rw [plF_at (by omega)]) ?_
    refine lv_istore_n (lv' := [(2, .int (sPl S pj)), (0, .ref (mH M)), (1, .int (nI pj))]) hx hb dX4_held_16 rfl hl (by decide) rfl (fun ls hl => ?_)
    by_cases hvz : sPl S pj = -1
    · refine lv_iconst (v := 0) hx hb dX4_held_17 (by decide) ?_
      refine lv_istore_n (lv' := [(3, .int 0), (2, .int (sPl S pj)), (0, .ref (mH M)), (1, .int (nI pj))]) hx hb dX4_held_18 rfl hl (by decide) rfl (fun ls hl => ?_)
      refine lv_iconst (v := 0) hx hb dX4_held_19 (by decide) ?_
      refine lv_istore (lv' := [(4, .int 0), (3, .int 0), (2, .int (sPl S pj)), (0, .ref (mH M)), (1, .int (nI pj))]) hx hb dX4_held_20 hl (by decide) rfl (fun ls hl => ?_)
      refine lv_iload hx hb dX4_held_22 (lv_at hl 0 rfl) ?_
      refine lv_bipush (v := 12) hx hb dX4_held_24 (by decide) ?_
      refine lv_icmp_ge (tgt := 180) hx hb dX4_held_26 (by decide) (fun c => absurd c (by decide)) (fun _ => ?_)
      refine lv_iload_n hx hb dX4_held_29 rfl (lv_at hl 2 rfl) ?_
      refine lv_iconst (v := -1) hx hb dX4_held_30 (by decide) ?_
      refine lv_icmp_eq (tgt := 180) hx hb dX4_held_31 (by decide) (fun _ => ?_) (fun c => absurd hvz c)
      refine lv_iload_n hx hb dX4_held_180 rfl (lv_at hl 1 rfl) ?_
      exact re_i hx hb hr hlocks hT hA hS hI (PoM.of (by
                unfold sp_held
                try simp only [pv_nI hpj]
                rw [if_neg (ho_3), if_pos (hvz)]) hR) (Nat.le_of_ble_eq_true rfl) (Nat.le_of_ble_eq_true rfl) dX4_held_181
    · refine lv_iconst (v := 0) hx hb dX4_held_17 (by decide) ?_
      refine lv_istore_n (lv' := [(3, .int 0), (2, .int (sPl S pj)), (0, .ref (mH M)), (1, .int (nI pj))]) hx hb dX4_held_18 rfl hl (by decide) rfl (fun ls hl => ?_)
      refine lv_iconst (v := 0) hx hb dX4_held_19 (by decide) ?_
      refine lv_istore (lv' := [(4, .int 0), (3, .int 0), (2, .int (sPl S pj)), (0, .ref (mH M)), (1, .int (nI pj))]) hx hb dX4_held_20 hl (by decide) rfl (fun ls hl => ?_)
      refine lp_w (ι := Nat) (fun t => 12 - t) (fun t H locs ls => (t ≤ 12) ∧ Hv E A w H ∧ va_S A s.heap H locs ∧ lv_has ls 7 [(0, .ref (mH M)), (2, .int (sPl S pj)), (3, .int (nI (hldF S (sPl S pj) t))), (4, .int (nI t))]) ?_ 0 _ _ _ ⟨Nat.zero_le _, hI, hS, lv_sub hl [3, 2, 1, 0] rfl⟩
      intro t H locs ls hq ih
      obtain ⟨ht, hI, hS, hl⟩ := hq
      have hbd := hldF_le S hW (sPl S pj) t
      refine lv_iload hx hb dX4_held_22 (lv_at hl 3 rfl) ?_
      refine lv_bipush (v := 12) hx hb dX4_held_24 (by decide) ?_
      refine lv_icmp_ge (tgt := 180) hx hb dX4_held_26 (by decide) (fun c_4 => ?_) (fun c_4 => ?_)
      · have c_4 : 12 ≤ t := (nI_leI (a := 12) (b := t) (by omega) (by omega)).mp c_4
        refine lv_iload_n hx hb dX4_held_180 rfl (lv_at hl 2 rfl) ?_
        exact re_i hx hb hr hlocks hT hA hS hI (PoM.of (by
                    unfold sp_held
                    try simp only [pv_nI hpj]
                    rw [if_neg (ho_3), if_neg (hvz)]
                    rw [show (12 : Nat) = t by omega]) hR) (Nat.le_of_ble_eq_true rfl) (Nat.le_of_ble_eq_true rfl) dX4_held_181
      · have c_4 : ¬ 12 ≤ t := fun q => c_4 ((nI_leI (a := 12) (b := t) (by omega) (by omega)).mpr q)
        refine lv_iload_n hx hb dX4_held_29 rfl (lv_at hl 1 rfl) ?_
        refine lv_iconst (v := -1) hx hb dX4_held_30 (by decide) ?_
        refine lv_icmp_eq (tgt := 180) hx hb dX4_held_31 (by decide) (fun c => absurd c hvz) (fun _ => ?_)
        refine lv_iload_n hx hb dX4_held_34 rfl (lv_at hl 2 rfl) ?_
        refine lv_aload_n hx hb dX4_held_35 rfl (lv_at hl 0 rfl) ?_
        refine wr_get (ci := 3) (C := RX4) (T := TX4) (N := 11) (v := .ref (mP M)) hx hb hts in_X4 hown hT hI hR.1 rfl 1 (by decide) (hts (.fieldLink RX4 7 "CopyRowsModel" "places" "[I") (by decide +kernel)) rfl dX4_held_36 ?_
        refine lv_iload hx hb dX4_held_39 (lv_at hl 3 rfl) ?_
        refine wr_ialdN (t := t) (n := 12) (f := plF S) hx hb hT hI hR.2.1 (by omega) (by omega) dX4_held_41 ?_
        refine W.eq (g2 := F0 m 42 ls [.int (sPl S t), .int (nI (hldF S (sPl S pj) t))]) (by rw [plF_at (by omega)]) ?_
        refine lv_iload_n hx hb dX4_held_42 rfl (lv_at hl 1 rfl) ?_
        refine lv_icmp_ne (tgt := 50) hx hb dX4_held_43 (by decide) (fun c_5 => ?_) (fun c_5 => ?_)
        · refine lv_iconst (v := 0) hx hb dX4_held_50 (by decide) ?_
          refine lv_iadd hx hb dX4_held_51 ?_
          refine W.eq (g2 := F0 m 52 ls [.int (nI ((hldF S (sPl S pj) t) + 0))]) (by rw [show (nI (hldF S (sPl S pj) t) : Int32) + 0 = nI ((hldF S (sPl S pj) t) + 0) from nI_add (hldF S (sPl S pj) t) 0]) ?_
          refine lv_istore_n (lv' := [(3, .int (nI ((hldF S (sPl S pj) t) + 0))), (0, .ref (mH M)), (2, .int (sPl S pj)), (4, .int (nI t))]) hx hb dX4_held_52 rfl hl (by decide) rfl (fun ls hl => ?_)
          refine lv_aload_n hx hb dX4_held_53 rfl (lv_at hl 1 rfl) ?_
          refine lv_iload hx hb dX4_held_54 (lv_at hl 3 rfl) ?_
          refine ca_V (As := [.int (nI t)]) (rest := []) (r0 := (RX4, TX4, 11)) (ci := 3) ⟨hx, hb, hml, hown, hts⟩ (cc_X4_isRow l E A _ (by omega) hW hR) (cwV 1 hts gX4_held_X4_isRow rfl rfl rfl (by decide +kernel) ⟨(Nat.le_of_ble_eq_true rfl), (Nat.le_of_ble_eq_true rfl)⟩) hT hI hA hS rfl hR.1 rfl rfl hl.1 (Nat.le_of_ble_eq_true rfl) dX4_held_56 ⟨(Nat.le_of_ble_eq_true rfl), (Nat.le_of_ble_eq_true rfl)⟩ (fun r w_7 H locs hp_6 hI hS => ?_)
          obtain ⟨rfl, ⟨hr_8, rfl⟩ | ⟨hr_8, rfl⟩⟩ := hp_6
          · have hr_8n : ¬ sPl S t = -1 := fun e9 => hr_8.1 (by rw [e9]; decide)
            have hr_8l := hW.ln (Or.inl hr_8)
            refine W.eq (g2 := F0 m 59 ls [.int 1]) rfl ?_
            refine lv_if_eq (tgt := 76) hx hb dX4_held_59 (by decide) (fun c => absurd c (by decide)) (fun _ => ?_)
            refine lv_aload_n hx hb dX4_held_62 rfl (lv_at hl 1 rfl) ?_
            refine lv_iload hx hb dX4_held_63 (lv_at hl 3 rfl) ?_
            refine ca_V (As := [.int (nI t)]) (rest := []) (r0 := (RX4, TX4, 11)) (ci := 3) ⟨hx, hb, hml, hown, hts⟩ (cc_X4_kindOf l E A _ (by omega) hW hR) (cwV 1 hts gX4_held_X4_kindOf rfl rfl rfl (by decide +kernel) ⟨(Nat.le_of_ble_eq_true rfl), (Nat.le_of_ble_eq_true rfl)⟩) hT hI hA hS rfl hR.1 rfl rfl hl.1 (Nat.le_of_ble_eq_true rfl) dX4_held_65 ⟨(Nat.le_of_ble_eq_true rfl), (Nat.le_of_ble_eq_true rfl)⟩ (fun r w_10 H locs hp_9 hI hS => ?_)
            obtain ⟨rfl, rfl⟩ := hp_9
            rw [kp_ne hr_8n]
            refine W.eq (g2 := F0 m 68 ls [.int (kdv S (sPl S t))]) rfl ?_
            refine lv_iconst (v := 2) hx hb dX4_held_68 (by decide) ?_
            refine lv_icmp_ne (tgt := 76) hx hb dX4_held_69 (by decide) (fun c_11 => ?_) (fun c_11 => ?_)
            · refine lv_iconst (v := 0) hx hb dX4_held_76 (by decide) ?_
              refine lv_istore (lv' := [(5, .int 0), (3, .int (nI ((hldF S (sPl S pj) t) + 0))), (0, .ref (mH M)), (2, .int (sPl S pj)), (4, .int (nI t))]) hx hb dX4_held_77 hl (by decide) rfl (fun ls hl => ?_)
              refine lv_iconst (v := 0) hx hb dX4_held_79 (by decide) ?_
              refine lv_istore (lv' := [(6, .int 0), (5, .int 0), (3, .int (nI ((hldF S (sPl S pj) t) + 0))), (0, .ref (mH M)), (2, .int (sPl S pj)), (4, .int (nI t))]) hx hb dX4_held_80 hl (by decide) rfl (fun ls hl => ?_)
              have hn0 : ¬ (vR S (sPl S t) ∧ kdv S (sPl S t) = 2) := fun q9 => c_11 q9.2
              have hq0 : 0 ≤ t ∧ (false = true → (vR S (sPl S t) ∧ kdv S (sPl S t) = 2) ∧ ∀ x9, x9 < 0 → ¬ sPl S x9 = sPl S t) ∧ ((vR S (sPl S t) ∧ kdv S (sPl S t) = 2) ∧ (∀ x9, x9 < 0 → ¬ sPl S x9 = sPl S t) → false = true) := ⟨Nat.zero_le _, fun e9 => Bool.noConfusion e9, fun q9 => absurd q9.1 hn0⟩
              refine lp_w (ι := Nat × Bool) (fun q9 => t - q9.1) (fun q9 H locs ls => (q9.1 ≤ t ∧ (q9.2 = true → (vR S (sPl S t) ∧ kdv S (sPl S t) = 2) ∧ ∀ x9, x9 < q9.1 → ¬ sPl S x9 = sPl S t) ∧ ((vR S (sPl S t) ∧ kdv S (sPl S t) = 2) ∧ (∀ x9, x9 < q9.1 → ¬ sPl S x9 = sPl S t) → q9.2 = true)) ∧ Hv E A w H ∧ va_S A s.heap H locs ∧ lv_has ls 7 [(0, .ref (mH M)), (2, .int (sPl S pj)), (3, .int (nI ((hldF S (sPl S pj) t) + 0))), (4, .int (nI t)), (5, .int (if q9.2 then 1 else 0)), (6, .int (nI q9.1))]) ?_ (0, false) _ _ _ ⟨hq0, hI, hS, lv_sub hl [3, 4, 2, 5, 1, 0] rfl⟩
              rintro ⟨u, b9⟩ H locs ls ⟨⟨hu, hb1, hb2⟩, hI, hS, hl⟩ ih2
              dsimp only at hu hb1 hb2 hl
              cases b9 with
              | false =>
                have hl : lv_has ls 7 [(0, .ref (mH M)), (2, .int (sPl S pj)), (3, .int (nI ((hldF S (sPl S pj) t) + 0))), (4, .int (nI t)), (5, .int 0), (6, .int (nI u))] := hl
                refine lv_iload hx hb dX4_held_82 (lv_at hl 5 rfl) ?_
                refine lv_iload hx hb dX4_held_84 (lv_at hl 3 rfl) ?_
                refine lv_icmp_ge (tgt := 124) hx hb dX4_held_86 (by decide) (fun c_12 => ?_) (fun c_12 => ?_)
                · have c_12 : t ≤ u := (nI_leI (a := t) (b := u) (by omega) (by omega)).mp c_12
                  refine lv_iconst (v := 0) hx hb dX4_held_124 (by decide) ?_
                  refine lv_istore (lv' := [(6, .int 0), (0, .ref (mH M)), (2, .int (sPl S pj)), (3, .int (nI ((hldF S (sPl S pj) t) + 0))), (4, .int (nI t)), (5, .int 0)]) hx hb dX4_held_125 hl (by decide) rfl (fun ls hl => ?_)
                  have hnw9 : ¬ (¬ sPl S t = -1 ∧ kdv S (sPl S t) = 2 ∧ frs S t) := fun q9 => by
                    have h9 := hb2 ⟨⟨vO_row ((hW.1 t).resolve_left q9.1) (by rw [q9.2.1]; decide), q9.2.1⟩, fun x9 h9 => q9.2.2 x9 (by omega)⟩
                    cases h9
                  refine lv_iload hx hb dX4_held_127 (lv_at hl 5 rfl) ?_
                  refine lv_if_eq (tgt := 174) hx hb dX4_held_129 (by decide) (fun _ => ?_) (fun c => absurd c (by decide))
                  refine lv_iinc (v := nI (t + 1)) (lv' := [(4, .int (nI (t + 1))), (6, .int 0), (0, .ref (mH M)), (2, .int (sPl S pj)), (3, .int (nI ((hldF S (sPl S pj) t) + 0))), (5, .int 0)]) hx hb dX4_held_174 hl (k := 4) rfl (nI_1 _) (by decide) rfl (fun ls hl => ?_)
                  refine lv_goto (tgt := 22) hx hb dX4_held_177 (by decide) ?_
                  have hst : hldF S (sPl S pj) (t + 1) = (hldF S (sPl S pj) t) + 0 := by simp only [hldF]; rw [if_neg c_5, if_neg hnw9]; try rfl
                  exact ih (t + 1) _ _ _ ⟨by omega, hI, hS, lv_sub hl [2, 3, 4, 0] (by rw [hst]; rfl)⟩ (by omega)
                · have c_12 : ¬ t ≤ u := fun q => c_12 ((nI_leI (a := t) (b := u) (by omega) (by omega)).mpr q)
                  refine lv_iload hx hb dX4_held_89 (lv_at hl 4 rfl) ?_
                  refine lv_if_eq (tgt := 115) hx hb dX4_held_91 (by decide) (fun _ => ?_) (fun c => absurd c (by decide))
                  refine lv_iconst (v := 0) hx hb dX4_held_115 (by decide) ?_
                  refine lv_istore (lv' := [(5, .int 0), (0, .ref (mH M)), (2, .int (sPl S pj)), (3, .int (nI ((hldF S (sPl S pj) t) + 0))), (4, .int (nI t)), (6, .int (nI u))]) hx hb dX4_held_116 hl (by decide) rfl (fun ls hl => ?_)
                  refine lv_iinc (v := nI (u + 1)) (lv' := [(6, .int (nI (u + 1))), (5, .int 0), (0, .ref (mH M)), (2, .int (sPl S pj)), (3, .int (nI ((hldF S (sPl S pj) t) + 0))), (4, .int (nI t))]) hx hb dX4_held_118 hl (k := 5) rfl (nI_1 _) (by decide) rfl (fun ls hl => ?_)
                  refine lv_goto (tgt := 82) hx hb dX4_held_121 (by decide) ?_
                  have hq1 : u + 1 ≤ t ∧ (false = true → (vR S (sPl S t) ∧ kdv S (sPl S t) = 2) ∧ ∀ x9, x9 < u + 1 → ¬ sPl S x9 = sPl S t) ∧ ((vR S (sPl S t) ∧ kdv S (sPl S t) = 2) ∧ (∀ x9, x9 < u + 1 → ¬ sPl S x9 = sPl S t) → false = true) := ⟨by omega, fun e9 => Bool.noConfusion e9, fun q9 => hb2 ⟨q9.1, fun x9 h9 => q9.2 x9 (by omega)⟩⟩
                  exact ih2 (u + 1, false) _ _ _ ⟨hq1, hI, hS, lv_sub hl [2, 3, 4, 5, 1, 0] rfl⟩ (by show t - (u + 1) < t - u; omega)
              | true =>
                have hl : lv_has ls 7 [(0, .ref (mH M)), (2, .int (sPl S pj)), (3, .int (nI ((hldF S (sPl S pj) t) + 0))), (4, .int (nI t)), (5, .int 1), (6, .int (nI u))] := hl
                refine lv_iload hx hb dX4_held_82 (lv_at hl 5 rfl) ?_
                refine lv_iload hx hb dX4_held_84 (lv_at hl 3 rfl) ?_
                refine lv_icmp_ge (tgt := 124) hx hb dX4_held_86 (by decide) (fun c_13 => ?_) (fun c_13 => ?_)
                · have c_13 : t ≤ u := (nI_leI (a := t) (b := u) (by omega) (by omega)).mp c_13
                  refine lv_iconst (v := 0) hx hb dX4_held_124 (by decide) ?_
                  refine lv_istore (lv' := [(6, .int 0), (0, .ref (mH M)), (2, .int (sPl S pj)), (3, .int (nI ((hldF S (sPl S pj) t) + 0))), (4, .int (nI t)), (5, .int 1)]) hx hb dX4_held_125 hl (by decide) rfl (fun ls hl => ?_)
                  have hnw9 : ¬ sPl S t = -1 ∧ kdv S (sPl S t) = 2 ∧ frs S t := ⟨fun e9 => (hb1 rfl).1.1.1 (by rw [e9]; decide), (hb1 rfl).1.2, fun x9 h9 => (hb1 rfl).2 x9 (by omega)⟩
                  have hrt : vR S (sPl S t) := (hb1 rfl).1.1
                  have hlt := hW.ln (Or.inl hrt)
                  clear hu hb1 hb2
                  refine lp_w (ι := Nat) (fun u => lnv S (sPl S t) - u) (fun u H locs ls => (u ≤ lnv S (sPl S t)) ∧ Hv E A w H ∧ va_S A s.heap H locs ∧ lv_has ls 7 [(0, .ref (mH M)), (2, .int (sPl S pj)), (3, .int (nI (((hldF S (sPl S pj) t) + 0) + cntI (itv S (sPl S t)) (sPl S pj) u))), (4, .int (nI t)), (5, .int 1), (6, .int (nI u))]) ?_ 0 _ _ _ ⟨Nat.zero_le _, hI, hS, lv_sub hl [1, 2, 3, 4, 5, 0] rfl⟩
                  intro u H locs ls hq ih3
                  obtain ⟨hu, hI, hS, hl⟩ := hq
                  refine lv_iload hx hb dX4_held_127 (lv_at hl 4 rfl) ?_
                  refine lv_if_eq (tgt := 174) hx hb dX4_held_129 (by decide) (fun c => absurd c (by decide)) (fun _ => ?_)
                  refine lv_iload hx hb dX4_held_132 (lv_at hl 5 rfl) ?_
                  refine lv_aload_n hx hb dX4_held_134 rfl (lv_at hl 0 rfl) ?_
                  refine lv_iload hx hb dX4_held_135 (lv_at hl 3 rfl) ?_
                  refine ca_V (As := [.int (nI t)]) (rest := [.int (nI u)]) (r0 := (RX4, TX4, 11)) (ci := 3) ⟨hx, hb, hml, hown, hts⟩ (cc_X4_lengthOf l E A _ (by omega) hW hR hrt) (cwV 1 hts gX4_held_X4_lengthOf rfl rfl rfl (by decide +kernel) ⟨(Nat.le_of_ble_eq_true rfl), (Nat.le_of_ble_eq_true rfl)⟩) hT hI hA hS rfl hR.1 rfl rfl hl.1 (Nat.le_of_ble_eq_true rfl) dX4_held_137 ⟨(Nat.le_of_ble_eq_true rfl), (Nat.le_of_ble_eq_true rfl)⟩ (fun r w_15 H locs hp_14 hI hS => ?_)
                  obtain ⟨rfl, rfl⟩ := hp_14
                  refine W.eq (g2 := F0 m 140 ls [.int (nI (lnv S (sPl S t))), .int (nI u)]) rfl ?_
                  refine lv_icmp_ge (tgt := 174) hx hb dX4_held_140 (by decide) (fun c_16 => ?_) (fun c_16 => ?_)
                  · have c_16 : lnv S (sPl S t) ≤ u := (nI_leI (a := lnv S (sPl S t)) (b := u) (by omega) (by omega)).mp c_16
                    refine lv_iinc (v := nI (t + 1)) (lv' := [(4, .int (nI (t + 1))), (0, .ref (mH M)), (2, .int (sPl S pj)), (3, .int (nI (((hldF S (sPl S pj) t) + 0) + cntI (itv S (sPl S t)) (sPl S pj) u))), (5, .int 1), (6, .int (nI u))]) hx hb dX4_held_174 hl (k := 3) rfl (nI_1 _) (by decide) rfl (fun ls hl => ?_)
                    refine lv_goto (tgt := 22) hx hb dX4_held_177 (by decide) ?_
                    have hst : hldF S (sPl S pj) (t + 1) = ((hldF S (sPl S pj) t) + 0) + cntI (itv S (sPl S t)) (sPl S pj) u := by simp only [hldF]; rw [if_neg c_5, if_pos hnw9, show u = lnv S (sPl S t) by omega]
                    exact ih (t + 1) _ _ _ ⟨by omega, hI, hS, lv_sub hl [1, 2, 3, 0] (by rw [hst]; rfl)⟩ (by omega)
                  · have c_16 : ¬ lnv S (sPl S t) ≤ u := fun q => c_16 ((nI_leI (a := lnv S (sPl S t)) (b := u) (by omega) (by omega)).mpr q)
                    refine lv_iload_n hx hb dX4_held_143 rfl (lv_at hl 2 rfl) ?_
                    refine lv_aload_n hx hb dX4_held_144 rfl (lv_at hl 0 rfl) ?_
                    refine lv_aload_n hx hb dX4_held_145 rfl (lv_at hl 0 rfl) ?_
                    refine wr_get (ci := 3) (C := RX4) (T := TX4) (N := 11) (v := .ref (mP M)) hx hb hts in_X4 hown hT hI hR.1 rfl 1 (by decide) (hts (.fieldLink RX4 7 "CopyRowsModel" "places" "[I") (by decide +kernel)) rfl dX4_held_146 ?_
                    refine lv_iload hx hb dX4_held_149 (lv_at hl 3 rfl) ?_
                    refine wr_ialdN (t := t) (n := 12) (f := plF S) hx hb hT hI hR.2.1 (by omega) (by omega) dX4_held_151 ?_
                    refine W.eq (g2 := F0 m 152 ls [.int (sPl S t), .ref (mH M), .int (nI (((hldF S (sPl S pj) t) + 0) + cntI (itv S (sPl S t)) (sPl S pj) u))]) (by rw [plF_at (by omega)]) ?_
                    refine lv_iload hx hb dX4_held_152 (lv_at hl 5 rfl) ?_
                    refine ca_V (As := [.int (sPl S t), .int (nI u)]) (rest := [.int (nI (((hldF S (sPl S pj) t) + 0) + cntI (itv S (sPl S t)) (sPl S pj) u))]) (r0 := (RX4, TX4, 11)) (ci := 3) ⟨hx, hb, hml, hown, hts⟩ (cM_get l E A _ hrt (by have := hW.2.2.2; omega) (by omega) hR) (cwV 2 hts gX4_held_X4_get rfl rfl rfl (by decide +kernel) ⟨(Nat.le_of_ble_eq_true rfl), (Nat.le_of_ble_eq_true rfl)⟩) hT hI hA hS rfl hR.1 rfl rfl hl.1 (Nat.le_of_ble_eq_true rfl) dX4_held_154 ⟨(Nat.le_of_ble_eq_true rfl), (Nat.le_of_ble_eq_true rfl)⟩ (fun r w_18 H locs hp_17 hI hS => ?_)
                    obtain ⟨rfl, rfl⟩ := hp_17
                    refine W.eq (g2 := F0 m 157 ls [.int (itv S (sPl S t) u), .int (nI (((hldF S (sPl S pj) t) + 0) + cntI (itv S (sPl S t)) (sPl S pj) u))]) rfl ?_
                    refine lv_iload_n hx hb dX4_held_157 rfl (lv_at hl 1 rfl) ?_
                    refine lv_icmp_ne (tgt := 165) hx hb dX4_held_158 (by decide) (fun c_19 => ?_) (fun c_19 => ?_)
                    · refine lv_iconst (v := 0) hx hb dX4_held_165 (by decide) ?_
                      refine lv_iadd hx hb dX4_held_166 ?_
                      refine W.eq (g2 := F0 m 167 ls [.int (nI ((((hldF S (sPl S pj) t) + 0) + cntI (itv S (sPl S t)) (sPl S pj) u) + 0))]) (by rw [show (nI (((hldF S (sPl S pj) t) + 0) + cntI (itv S (sPl S t)) (sPl S pj) u) : Int32) + 0 = nI ((((hldF S (sPl S pj) t) + 0) + cntI (itv S (sPl S t)) (sPl S pj) u) + 0) from nI_add (((hldF S (sPl S pj) t) + 0) + cntI (itv S (sPl S t)) (sPl S pj) u) 0]) ?_
                      refine lv_istore_n (lv' := [(3, .int (nI ((((hldF S (sPl S pj) t) + 0) + cntI (itv S (sPl S t)) (sPl S pj) u) + 0))), (0, .ref (mH M)), (2, .int (sPl S pj)), (4, .int (nI t)), (5, .int 1), (6, .int (nI u))]) hx hb dX4_held_167 rfl hl (by decide) rfl (fun ls hl => ?_)
                      refine lv_iinc (v := nI (u + 1)) (lv' := [(6, .int (nI (u + 1))), (3, .int (nI ((((hldF S (sPl S pj) t) + 0) + cntI (itv S (sPl S t)) (sPl S pj) u) + 0))), (0, .ref (mH M)), (2, .int (sPl S pj)), (4, .int (nI t)), (5, .int 1)]) hx hb dX4_held_168 hl (k := 5) rfl (nI_1 _) (by decide) rfl (fun ls hl => ?_)
                      refine lv_goto (tgt := 127) hx hb dX4_held_171 (by decide) ?_
                      exact ih3 (u + 1) _ _ _ ⟨by omega, hI, hS, lv_sub hl [2, 3, 1, 4, 5, 0] (by simp [lv_pick, cntI, c_19, Nat.add_assoc])⟩ (by omega)
                    · refine lv_iconst (v := 1) hx hb dX4_held_161 (by decide) ?_
                      refine lv_goto (tgt := 166) hx hb dX4_held_162 (by decide) ?_
                      refine lv_iadd hx hb dX4_held_166 ?_
                      refine W.eq (g2 := F0 m 167 ls [.int (nI ((((hldF S (sPl S pj) t) + 0) + cntI (itv S (sPl S t)) (sPl S pj) u) + 1))]) (by rw [show (nI (((hldF S (sPl S pj) t) + 0) + cntI (itv S (sPl S t)) (sPl S pj) u) : Int32) + 1 = nI ((((hldF S (sPl S pj) t) + 0) + cntI (itv S (sPl S t)) (sPl S pj) u) + 1) from nI_add (((hldF S (sPl S pj) t) + 0) + cntI (itv S (sPl S t)) (sPl S pj) u) 1]) ?_
                      refine lv_istore_n (lv' := [(3, .int (nI ((((hldF S (sPl S pj) t) + 0) + cntI (itv S (sPl S t)) (sPl S pj) u) + 1))), (0, .ref (mH M)), (2, .int (sPl S pj)), (4, .int (nI t)), (5, .int 1), (6, .int (nI u))]) hx hb dX4_held_167 rfl hl (by decide) rfl (fun ls hl => ?_)
                      refine lv_iinc (v := nI (u + 1)) (lv' := [(6, .int (nI (u + 1))), (3, .int (nI ((((hldF S (sPl S pj) t) + 0) + cntI (itv S (sPl S t)) (sPl S pj) u) + 1))), (0, .ref (mH M)), (2, .int (sPl S pj)), (4, .int (nI t)), (5, .int 1)]) hx hb dX4_held_168 hl (k := 5) rfl (nI_1 _) (by decide) rfl (fun ls hl => ?_)
                      refine lv_goto (tgt := 127) hx hb dX4_held_171 (by decide) ?_
                      exact ih3 (u + 1) _ _ _ ⟨by omega, hI, hS, lv_sub hl [2, 3, 1, 4, 5, 0] (by simp [lv_pick, cntI, c_19, Nat.add_assoc])⟩ (by omega)
                · have c_13 : ¬ t ≤ u := fun q => c_13 ((nI_leI (a := t) (b := u) (by omega) (by omega)).mpr q)
                  refine lv_iload hx hb dX4_held_89 (lv_at hl 4 rfl) ?_
                  refine lv_if_eq (tgt := 115) hx hb dX4_held_91 (by decide) (fun c => absurd c (by decide)) (fun _ => ?_)
                  refine lv_aload_n hx hb dX4_held_94 rfl (lv_at hl 0 rfl) ?_
                  refine wr_get (ci := 3) (C := RX4) (T := TX4) (N := 11) (v := .ref (mP M)) hx hb hts in_X4 hown hT hI hR.1 rfl 1 (by decide) (hts (.fieldLink RX4 7 "CopyRowsModel" "places" "[I") (by decide +kernel)) rfl dX4_held_95 ?_
                  refine lv_iload hx hb dX4_held_98 (lv_at hl 5 rfl) ?_
                  refine wr_ialdN (t := u) (n := 12) (f := plF S) hx hb hT hI hR.2.1 (by omega) (by omega) dX4_held_100 ?_
                  refine W.eq (g2 := F0 m 101 ls [.int (sPl S u)]) (by rw [plF_at (by omega)]) ?_
                  refine lv_aload_n hx hb dX4_held_101 rfl (lv_at hl 0 rfl) ?_
                  refine wr_get (ci := 3) (C := RX4) (T := TX4) (N := 11) (v := .ref (mP M)) hx hb hts in_X4 hown hT hI hR.1 rfl 1 (by decide) (hts (.fieldLink RX4 7 "CopyRowsModel" "places" "[I") (by decide +kernel)) rfl dX4_held_102 ?_
                  refine lv_iload hx hb dX4_held_105 (lv_at hl 3 rfl) ?_
                  refine wr_ialdN (t := t) (n := 12) (f := plF S) hx hb hT hI hR.2.1 (by omega) (by omega) dX4_held_107 ?_
                  refine W.eq (g2 := F0 m 108 ls [.int (sPl S t), .int (sPl S u)]) (by rw [plF_at (by omega)]) ?_
                  refine lv_icmp_eq (tgt := 115) hx hb dX4_held_108 (by decide) (fun c_20 => ?_) (fun c_20 => ?_)
                  · refine lv_iconst (v := 0) hx hb dX4_held_115 (by decide) ?_
                    refine lv_istore (lv' := [(5, .int 0), (0, .ref (mH M)), (2, .int (sPl S pj)), (3, .int (nI ((hldF S (sPl S pj) t) + 0))), (4, .int (nI t)), (6, .int (nI u))]) hx hb dX4_held_116 hl (by decide) rfl (fun ls hl => ?_)
                    refine lv_iinc (v := nI (u + 1)) (lv' := [(6, .int (nI (u + 1))), (5, .int 0), (0, .ref (mH M)), (2, .int (sPl S pj)), (3, .int (nI ((hldF S (sPl S pj) t) + 0))), (4, .int (nI t))]) hx hb dX4_held_118 hl (k := 5) rfl (nI_1 _) (by decide) rfl (fun ls hl => ?_)
                    refine lv_goto (tgt := 82) hx hb dX4_held_121 (by decide) ?_
                    have hq1 : u + 1 ≤ t ∧ (false = true → (vR S (sPl S t) ∧ kdv S (sPl S t) = 2) ∧ ∀ x9, x9 < u + 1 → ¬ sPl S x9 = sPl S t) ∧ ((vR S (sPl S t) ∧ kdv S (sPl S t) = 2) ∧ (∀ x9, x9 < u + 1 → ¬ sPl S x9 = sPl S t) → false = true) := ⟨by omega, fun e9 => Bool.noConfusion e9, fun q9 => absurd c_20 (q9.2 u (by omega))⟩
                    exact ih2 (u + 1, false) _ _ _ ⟨hq1, hI, hS, lv_sub hl [2, 3, 4, 5, 1, 0] rfl⟩ (by show t - (u + 1) < t - u; omega)
                  · refine lv_iconst (v := 1) hx hb dX4_held_111 (by decide) ?_
                    refine lv_goto (tgt := 116) hx hb dX4_held_112 (by decide) ?_
                    refine lv_istore (lv' := [(5, .int 1), (0, .ref (mH M)), (2, .int (sPl S pj)), (3, .int (nI ((hldF S (sPl S pj) t) + 0))), (4, .int (nI t)), (6, .int (nI u))]) hx hb dX4_held_116 hl (by decide) rfl (fun ls hl => ?_)
                    refine lv_iinc (v := nI (u + 1)) (lv' := [(6, .int (nI (u + 1))), (5, .int 1), (0, .ref (mH M)), (2, .int (sPl S pj)), (3, .int (nI ((hldF S (sPl S pj) t) + 0))), (4, .int (nI t))]) hx hb dX4_held_118 hl (k := 5) rfl (nI_1 _) (by decide) rfl (fun ls hl => ?_)
                    refine lv_goto (tgt := 82) hx hb dX4_held_121 (by decide) ?_
                    have hq1 : u + 1 ≤ t ∧ (true = true → (vR S (sPl S t) ∧ kdv S (sPl S t) = 2) ∧ ∀ x9, x9 < u + 1 → ¬ sPl S x9 = sPl S t) ∧ ((vR S (sPl S t) ∧ kdv S (sPl S t) = 2) ∧ (∀ x9, x9 < u + 1 → ¬ sPl S x9 = sPl S t) → true = true) := ⟨by omega, fun _ => ⟨(hb1 rfl).1, fun x9 h9 => by rcases Nat.lt_or_ge x9 u with q | q; exact (hb1 rfl).2 x9 q; rw [show x9 = u by omega]; exact c_20⟩, fun _ => rfl⟩
                    exact ih2 (u + 1, true) _ _ _ ⟨hq1, hI, hS, lv_sub hl [2, 3, 4, 5, 1, 0] rfl⟩ (by show t - (u + 1) < t - u; omega)
            · refine lv_iconst (v := 1) hx hb dX4_held_72 (by decide) ?_
              refine lv_goto (tgt := 77) hx hb dX4_held_73 (by decide) ?_
              refine lv_istore (lv' := [(5, .int 1), (3, .int (nI ((hldF S (sPl S pj) t) + 0))), (0, .ref (mH M)), (2, .int (sPl S pj)), (4, .int (nI t))]) hx hb dX4_held_77 hl (by decide) rfl (fun ls hl => ?_)
              refine lv_iconst (v := 0) hx hb dX4_held_79 (by decide) ?_
              refine lv_istore (lv' := [(6, .int 0), (5, .int 1), (3, .int (nI ((hldF S (sPl S pj) t) + 0))), (0, .ref (mH M)), (2, .int (sPl S pj)), (4, .int (nI t))]) hx hb dX4_held_80 hl (by decide) rfl (fun ls hl => ?_)
              have hn0 : vR S (sPl S t) ∧ kdv S (sPl S t) = 2 := ⟨hr_8, c_11⟩
              have hq0 : 0 ≤ t ∧ (true = true → (vR S (sPl S t) ∧ kdv S (sPl S t) = 2) ∧ ∀ x9, x9 < 0 → ¬ sPl S x9 = sPl S t) ∧ ((vR S (sPl S t) ∧ kdv S (sPl S t) = 2) ∧ (∀ x9, x9 < 0 → ¬ sPl S x9 = sPl S t) → true = true) := ⟨Nat.zero_le _, fun _ => ⟨hn0, fun q9 h9 => absurd h9 (Nat.not_lt_zero _)⟩, fun _ => rfl⟩
              refine lp_w (ι := Nat × Bool) (fun q9 => t - q9.1) (fun q9 H locs ls => (q9.1 ≤ t ∧ (q9.2 = true → (vR S (sPl S t) ∧ kdv S (sPl S t) = 2) ∧ ∀ x9, x9 < q9.1 → ¬ sPl S x9 = sPl S t) ∧ ((vR S (sPl S t) ∧ kdv S (sPl S t) = 2) ∧ (∀ x9, x9 < q9.1 → ¬ sPl S x9 = sPl S t) → q9.2 = true)) ∧ Hv E A w H ∧ va_S A s.heap H locs ∧ lv_has ls 7 [(0, .ref (mH M)), (2, .int (sPl S pj)), (3, .int (nI ((hldF S (sPl S pj) t) + 0))), (4, .int (nI t)), (5, .int (if q9.2 then 1 else 0)), (6, .int (nI q9.1))]) ?_ (0, true) _ _ _ ⟨hq0, hI, hS, lv_sub hl [3, 4, 2, 5, 1, 0] rfl⟩
              rintro ⟨u, b9⟩ H locs ls ⟨⟨hu, hb1, hb2⟩, hI, hS, hl⟩ ih2
              dsimp only at hu hb1 hb2 hl
              cases b9 with
              | false =>
                have hl : lv_has ls 7 [(0, .ref (mH M)), (2, .int (sPl S pj)), (3, .int (nI ((hldF S (sPl S pj) t) + 0))), (4, .int (nI t)), (5, .int 0), (6, .int (nI u))] := hl
                refine lv_iload hx hb dX4_held_82 (lv_at hl 5 rfl) ?_
                refine lv_iload hx hb dX4_held_84 (lv_at hl 3 rfl) ?_
                refine lv_icmp_ge (tgt := 124) hx hb dX4_held_86 (by decide) (fun c_21 => ?_) (fun c_21 => ?_)
                · have c_21 : t ≤ u := (nI_leI (a := t) (b := u) (by omega) (by omega)).mp c_21
                  refine lv_iconst (v := 0) hx hb dX4_held_124 (by decide) ?_
                  refine lv_istore (lv' := [(6, .int 0), (0, .ref (mH M)), (2, .int (sPl S pj)), (3, .int (nI ((hldF S (sPl S pj) t) + 0))), (4, .int (nI t)), (5, .int 0)]) hx hb dX4_held_125 hl (by decide) rfl (fun ls hl => ?_)
                  have hnw9 : ¬ (¬ sPl S t = -1 ∧ kdv S (sPl S t) = 2 ∧ frs S t) := fun q9 => by
                    have h9 := hb2 ⟨⟨vO_row ((hW.1 t).resolve_left q9.1) (by rw [q9.2.1]; decide), q9.2.1⟩, fun x9 h9 => q9.2.2 x9 (by omega)⟩
                    cases h9
                  refine lv_iload hx hb dX4_held_127 (lv_at hl 5 rfl) ?_
                  refine lv_if_eq (tgt := 174) hx hb dX4_held_129 (by decide) (fun _ => ?_) (fun c => absurd c (by decide))
                  refine lv_iinc (v := nI (t + 1)) (lv' := [(4, .int (nI (t + 1))), (6, .int 0), (0, .ref (mH M)), (2, .int (sPl S pj)), (3, .int (nI ((hldF S (sPl S pj) t) + 0))), (5, .int 0)]) hx hb dX4_held_174 hl (k := 4) rfl (nI_1 _) (by decide) rfl (fun ls hl => ?_)
                  refine lv_goto (tgt := 22) hx hb dX4_held_177 (by decide) ?_
                  have hst : hldF S (sPl S pj) (t + 1) = (hldF S (sPl S pj) t) + 0 := by simp only [hldF]; rw [if_neg c_5, if_neg hnw9]; try rfl
                  exact ih (t + 1) _ _ _ ⟨by omega, hI, hS, lv_sub hl [2, 3, 4, 0] (by rw [hst]; rfl)⟩ (by omega)
                · have c_21 : ¬ t ≤ u := fun q => c_21 ((nI_leI (a := t) (b := u) (by omega) (by omega)).mpr q)
                  refine lv_iload hx hb dX4_held_89 (lv_at hl 4 rfl) ?_
                  refine lv_if_eq (tgt := 115) hx hb dX4_held_91 (by decide) (fun _ => ?_) (fun c => absurd c (by decide))
                  refine lv_iconst (v := 0) hx hb dX4_held_115 (by decide) ?_
                  refine lv_istore (lv' := [(5, .int 0), (0, .ref (mH M)), (2, .int (sPl S pj)), (3, .int (nI ((hldF S (sPl S pj) t) + 0))), (4, .int (nI t)), (6, .int (nI u))]) hx hb dX4_held_116 hl (by decide) rfl (fun ls hl => ?_)
                  refine lv_iinc (v := nI (u + 1)) (lv' := [(6, .int (nI (u + 1))), (5, .int 0), (0, .ref (mH M)), (2, .int (sPl S pj)), (3, .int (nI ((hldF S (sPl S pj) t) + 0))), (4, .int (nI t))]) hx hb dX4_held_118 hl (k := 5) rfl (nI_1 _) (by decide) rfl (fun ls hl => ?_)
                  refine lv_goto (tgt := 82) hx hb dX4_held_121 (by decide) ?_
                  have hq1 : u + 1 ≤ t ∧ (false = true → (vR S (sPl S t) ∧ kdv S (sPl S t) = 2) ∧ ∀ x9, x9 < u + 1 → ¬ sPl S x9 = sPl S t) ∧ ((vR S (sPl S t) ∧ kdv S (sPl S t) = 2) ∧ (∀ x9, x9 < u + 1 → ¬ sPl S x9 = sPl S t) → false = true) := ⟨by omega, fun e9 => Bool.noConfusion e9, fun q9 => hb2 ⟨q9.1, fun x9 h9 => q9.2 x9 (by omega)⟩⟩
                  exact ih2 (u + 1, false) _ _ _ ⟨hq1, hI, hS, lv_sub hl [2, 3, 4, 5, 1, 0] rfl⟩ (by show t - (u + 1) < t - u; omega)
              | true =>
                have hl : lv_has ls 7 [(0, .ref (mH M)), (2, .int (sPl S pj)), (3, .int (nI ((hldF S (sPl S pj) t) + 0))), (4, .int (nI t)), (5, .int 1), (6, .int (nI u))] := hl
                refine lv_iload hx hb dX4_held_82 (lv_at hl 5 rfl) ?_
                refine lv_iload hx hb dX4_held_84 (lv_at hl 3 rfl) ?_
                refine lv_icmp_ge (tgt := 124) hx hb dX4_held_86 (by decide) (fun c_22 => ?_) (fun c_22 => ?_)
                · have c_22 : t ≤ u := (nI_leI (a := t) (b := u) (by omega) (by omega)).mp c_22
                  refine lv_iconst (v := 0) hx hb dX4_held_124 (by decide) ?_
                  refine lv_istore (lv' := [(6, .int 0), (0, .ref (mH M)), (2, .int (sPl S pj)), (3, .int (nI ((hldF S (sPl S pj) t) + 0))), (4, .int (nI t)), (5, .int 1)]) hx hb dX4_held_125 hl (by decide) rfl (fun ls hl => ?_)
                  have hnw9 : ¬ sPl S t = -1 ∧ kdv S (sPl S t) = 2 ∧ frs S t := ⟨fun e9 => (hb1 rfl).1.1.1 (by rw [e9]; decide), (hb1 rfl).1.2, fun x9 h9 => (hb1 rfl).2 x9 (by omega)⟩
                  have hrt : vR S (sPl S t) := (hb1 rfl).1.1
                  have hlt := hW.ln (Or.inl hrt)
                  clear hu hb1 hb2
                  refine lp_w (ι := Nat) (fun u => lnv S (sPl S t) - u) (fun u H locs ls => (u ≤ lnv S (sPl S t)) ∧ Hv E A w H ∧ va_S A s.heap H locs ∧ lv_has ls 7 [(0, .ref (mH M)), (2, .int (sPl S pj)), (3, .int (nI (((hldF S (sPl S pj) t) + 0) + cntI (itv S (sPl S t)) (sPl S pj) u))), (4, .int (nI t)), (5, .int 1), (6, .int (nI u))]) ?_ 0 _ _ _ ⟨Nat.zero_le _, hI, hS, lv_sub hl [1, 2, 3, 4, 5, 0] rfl⟩
                  intro u H locs ls hq ih3
                  obtain ⟨hu, hI, hS, hl⟩ := hq
                  refine lv_iload hx hb dX4_held_127 (lv_at hl 4 rfl) ?_
                  refine lv_if_eq (tgt := 174) hx hb dX4_held_129 (by decide) (fun c => absurd c (by decide)) (fun _ => ?_)
                  refine lv_iload hx hb dX4_held_132 (lv_at hl 5 rfl) ?_
                  refine lv_aload_n hx hb dX4_held_134 rfl (lv_at hl 0 rfl) ?_
                  refine lv_iload hx hb dX4_held_135 (lv_at hl 3 rfl) ?_
                  refine ca_V (As := [.int (nI t)]) (rest := [.int (nI u)]) (r0 := (RX4, TX4, 11)) (ci := 3) ⟨hx, hb, hml, hown, hts⟩ (cc_X4_lengthOf l E A _ (by omega) hW hR hrt) (cwV 1 hts gX4_held_X4_lengthOf rfl rfl rfl (by decide +kernel) ⟨(Nat.le_of_ble_eq_true rfl), (Nat.le_of_ble_eq_true rfl)⟩) hT hI hA hS rfl hR.1 rfl rfl hl.1 (Nat.le_of_ble_eq_true rfl) dX4_held_137 ⟨(Nat.le_of_ble_eq_true rfl), (Nat.le_of_ble_eq_true rfl)⟩ (fun r w_24 H locs hp_23 hI hS => ?_)
                  obtain ⟨rfl, rfl⟩ := hp_23
                  refine W.eq (g2 := F0 m 140 ls [.int (nI (lnv S (sPl S t))), .int (nI u)]) rfl ?_
                  refine lv_icmp_ge (tgt := 174) hx hb dX4_held_140 (by decide) (fun c_25 => ?_) (fun c_25 => ?_)
                  · have c_25 : lnv S (sPl S t) ≤ u := (nI_leI (a := lnv S (sPl S t)) (b := u) (by omega) (by omega)).mp c_25
                    refine lv_iinc (v := nI (t + 1)) (lv' := [(4, .int (nI (t + 1))), (0, .ref (mH M)), (2, .int (sPl S pj)), (3, .int (nI (((hldF S (sPl S pj) t) + 0) + cntI (itv S (sPl S t)) (sPl S pj) u))), (5, .int 1), (6, .int (nI u))]) hx hb dX4_held_174 hl (k := 3) rfl (nI_1 _) (by decide) rfl (fun ls hl => ?_)
                    refine lv_goto (tgt := 22) hx hb dX4_held_177 (by decide) ?_
                    have hst : hldF S (sPl S pj) (t + 1) = ((hldF S (sPl S pj) t) + 0) + cntI (itv S (sPl S t)) (sPl S pj) u := by simp only [hldF]; rw [if_neg c_5, if_pos hnw9, show u = lnv S (sPl S t) by omega]
                    exact ih (t + 1) _ _ _ ⟨by omega, hI, hS, lv_sub hl [1, 2, 3, 0] (by rw [hst]; rfl)⟩ (by omega)
                  · have c_25 : ¬ lnv S (sPl S t) ≤ u := fun q => c_25 ((nI_leI (a := lnv S (sPl S t)) (b := u) (by omega) (by omega)).mpr q)
                    refine lv_iload_n hx hb dX4_held_143 rfl (lv_at hl 2 rfl) ?_
                    refine lv_aload_n hx hb dX4_held_144 rfl (lv_at hl 0 rfl) ?_
                    refine lv_aload_n hx hb dX4_held_145 rfl (lv_at hl 0 rfl) ?_
                    refine wr_get (ci := 3) (C := RX4) (T := TX4) (N := 11) (v := .ref (mP M)) hx hb hts in_X4 hown hT hI hR.1 rfl 1 (by decide) (hts (.fieldLink RX4 7 "CopyRowsModel" "places" "[I") (by decide +kernel)) rfl dX4_held_146 ?_
                    refine lv_iload hx hb dX4_held_149 (lv_at hl 3 rfl) ?_
                    refine wr_ialdN (t := t) (n := 12) (f := plF S) hx hb hT hI hR.2.1 (by omega) (by omega) dX4_held_151 ?_
                    refine W.eq (g2 := F0 m 152 ls [.int (sPl S t), .ref (mH M), .int (nI (((hldF S (sPl S pj) t) + 0) + cntI (itv S (sPl S t)) (sPl S pj) u))]) (by rw [plF_at (by omega)]) ?_
                    refine lv_iload hx hb dX4_held_152 (lv_at hl 5 rfl) ?_
                    refine ca_V (As := [.int (sPl S t), .int (nI u)]) (rest := [.int (nI (((hldF S (sPl S pj) t) + 0) + cntI (itv S (sPl S t)) (sPl S pj) u))]) (r0 := (RX4, TX4, 11)) (ci := 3) ⟨hx, hb, hml, hown, hts⟩ (cM_get l E A _ hrt (by have := hW.2.2.2; omega) (by omega) hR) (cwV 2 hts gX4_held_X4_get rfl rfl rfl (by decide +kernel) ⟨(Nat.le_of_ble_eq_true rfl), (Nat.le_of_ble_eq_true rfl)⟩) hT hI hA hS rfl hR.1 rfl rfl hl.1 (Nat.le_of_ble_eq_true rfl) dX4_held_154 ⟨(Nat.le_of_ble_eq_true rfl), (Nat.le_of_ble_eq_true rfl)⟩ (fun r w_27 H locs hp_26 hI hS => ?_)
                    obtain ⟨rfl, rfl⟩ := hp_26
                    refine W.eq (g2 := F0 m 157 ls [.int (itv S (sPl S t) u), .int (nI (((hldF S (sPl S pj) t) + 0) + cntI (itv S (sPl S t)) (sPl S pj) u))]) rfl ?_
                    refine lv_iload_n hx hb dX4_held_157 rfl (lv_at hl 1 rfl) ?_
                    refine lv_icmp_ne (tgt := 165) hx hb dX4_held_158 (by decide) (fun c_28 => ?_) (fun c_28 => ?_)
                    · refine lv_iconst (v := 0) hx hb dX4_held_165 (by decide) ?_
                      refine lv_iadd hx hb dX4_held_166 ?_
                      refine W.eq (g2 := F0 m 167 ls [.int (nI ((((hldF S (sPl S pj) t) + 0) + cntI (itv S (sPl S t)) (sPl S pj) u) + 0))]) (by rw [show (nI (((hldF S (sPl S pj) t) + 0) + cntI (itv S (sPl S t)) (sPl S pj) u) : Int32) + 0 = nI ((((hldF S (sPl S pj) t) + 0) + cntI (itv S (sPl S t)) (sPl S pj) u) + 0) from nI_add (((hldF S (sPl S pj) t) + 0) + cntI (itv S (sPl S t)) (sPl S pj) u) 0]) ?_
                      refine lv_istore_n (lv' := [(3, .int (nI ((((hldF S (sPl S pj) t) + 0) + cntI (itv S (sPl S t)) (sPl S pj) u) + 0))), (0, .ref (mH M)), (2, .int (sPl S pj)), (4, .int (nI t)), (5, .int 1), (6, .int (nI u))]) hx hb dX4_held_167 rfl hl (by decide) rfl (fun ls hl => ?_)
                      refine lv_iinc (v := nI (u + 1)) (lv' := [(6, .int (nI (u + 1))), (3, .int (nI ((((hldF S (sPl S pj) t) + 0) + cntI (itv S (sPl S t)) (sPl S pj) u) + 0))), (0, .ref (mH M)), (2, .int (sPl S pj)), (4, .int (nI t)), (5, .int 1)]) hx hb dX4_held_168 hl (k := 5) rfl (nI_1 _) (by decide) rfl (fun ls hl => ?_)
                      refine lv_goto (tgt := 127) hx hb dX4_held_171 (by decide) ?_
                      exact ih3 (u + 1) _ _ _ ⟨by omega, hI, hS, lv_sub hl [2, 3, 1, 4, 5, 0] (by simp [lv_pick, cntI, c_28, Nat.add_assoc])⟩ (by omega)
                    · refine lv_iconst (v := 1) hx hb dX4_held_161 (by decide) ?_
                      refine lv_goto (tgt := 166) hx hb dX4_held_162 (by decide) ?_
                      refine lv_iadd hx hb dX4_held_166 ?_
                      refine W.eq (g2 := F0 m 167 ls [.int (nI ((((hldF S (sPl S pj) t) + 0) + cntI (itv S (sPl S t)) (sPl S pj) u) + 1))]) (by rw [show (nI (((hldF S (sPl S pj) t) + 0) + cntI (itv S (sPl S t)) (sPl S pj) u) : Int32) + 1 = nI ((((hldF S (sPl S pj) t) + 0) + cntI (itv S (sPl S t)) (sPl S pj) u) + 1) from nI_add (((hldF S (sPl S pj) t) + 0) + cntI (itv S (sPl S t)) (sPl S pj) u) 1]) ?_
                      refine lv_istore_n (lv' := [(3, .int (nI ((((hldF S (sPl S pj) t) + 0) + cntI (itv S (sPl S t)) (sPl S pj) u) + 1))), (0, .ref (mH M)), (2, .int (sPl S pj)), (4, .int (nI t)), (5, .int 1), (6, .int (nI u))]) hx hb dX4_held_167 rfl hl (by decide) rfl (fun ls hl => ?_)
                      refine lv_iinc (v := nI (u + 1)) (lv' := [(6, .int (nI (u + 1))), (3, .int (nI ((((hldF S (sPl S pj) t) + 0) + cntI (itv S (sPl S t)) (sPl S pj) u) + 1))), (0, .ref (mH M)), (2, .int (sPl S pj)), (4, .int (nI t)), (5, .int 1)]) hx hb dX4_held_168 hl (k := 5) rfl (nI_1 _) (by decide) rfl (fun ls hl => ?_)
                      refine lv_goto (tgt := 127) hx hb dX4_held_171 (by decide) ?_
                      exact ih3 (u + 1) _ _ _ ⟨by omega, hI, hS, lv_sub hl [2, 3, 1, 4, 5, 0] (by simp [lv_pick, cntI, c_28, Nat.add_assoc])⟩ (by omega)
                · have c_22 : ¬ t ≤ u := fun q => c_22 ((nI_leI (a := t) (b := u) (by omega) (by omega)).mpr q)
                  refine lv_iload hx hb dX4_held_89 (lv_at hl 4 rfl) ?_
                  refine lv_if_eq (tgt := 115) hx hb dX4_held_91 (by decide) (fun c => absurd c (by decide)) (fun _ => ?_)
                  refine lv_aload_n hx hb dX4_held_94 rfl (lv_at hl 0 rfl) ?_
                  refine wr_get (ci := 3) (C := RX4) (T := TX4) (N := 11) (v := .ref (mP M)) hx hb hts in_X4 hown hT hI hR.1 rfl 1 (by decide) (hts (.fieldLink RX4 7 "CopyRowsModel" "places" "[I") (by decide +kernel)) rfl dX4_held_95 ?_
                  refine lv_iload hx hb dX4_held_98 (lv_at hl 5 rfl) ?_
                  refine wr_ialdN (t := u) (n := 12) (f := plF S) hx hb hT hI hR.2.1 (by omega) (by omega) dX4_held_100 ?_
                  refine W.eq (g2 := F0 m 101 ls [.int (sPl S u)]) (by rw [plF_at (by omega)]) ?_
                  refine lv_aload_n hx hb dX4_held_101 rfl (lv_at hl 0 rfl) ?_
                  refine wr_get (ci := 3) (C := RX4) (T := TX4) (N := 11) (v := .ref (mP M)) hx hb hts in_X4 hown hT hI hR.1 rfl 1 (by decide) (hts (.fieldLink RX4 7 "CopyRowsModel" "places" "[I") (by decide +kernel)) rfl dX4_held_102 ?_
                  refine lv_iload hx hb dX4_held_105 (lv_at hl 3 rfl) ?_
                  refine wr_ialdN (t := t) (n := 12) (f := plF S) hx hb hT hI hR.2.1 (by omega) (by omega) dX4_held_107 ?_
                  refine W.eq (g2 := F0 m 108 ls [.int (sPl S t), .int (sPl S u)]) (by rw [plF_at (by omega)]) ?_
                  refine lv_icmp_eq (tgt := 115) hx hb dX4_held_108 (by decide) (fun c_29 => ?_) (fun c_29 => ?_)
                  · refine lv_iconst (v := 0) hx hb dX4_held_115 (by decide) ?_
                    refine lv_istore (lv' := [(5, .int 0), (0, .ref (mH M)), (2, .int (sPl S pj)), (3, .int (nI ((hldF S (sPl S pj) t) + 0))), (4, .int (nI t)), (6, .int (nI u))]) hx hb dX4_held_116 hl (by decide) rfl (fun ls hl => ?_)
                    refine lv_iinc (v := nI (u + 1)) (lv' := [(6, .int (nI (u + 1))), (5, .int 0), (0, .ref (mH M)), (2, .int (sPl S pj)), (3, .int (nI ((hldF S (sPl S pj) t) + 0))), (4, .int (nI t))]) hx hb dX4_held_118 hl (k := 5) rfl (nI_1 _) (by decide) rfl (fun ls hl => ?_)
                    refine lv_goto (tgt := 82) hx hb dX4_held_121 (by decide) ?_
                    have hq1 : u + 1 ≤ t ∧ (false = true → (vR S (sPl S t) ∧ kdv S (sPl S t) = 2) ∧ ∀ x9, x9 < u + 1 → ¬ sPl S x9 = sPl S t) ∧ ((vR S (sPl S t) ∧ kdv S (sPl S t) = 2) ∧ (∀ x9, x9 < u + 1 → ¬ sPl S x9 = sPl S t) → false = true) := ⟨by omega, fun e9 => Bool.noConfusion e9, fun q9 => absurd c_29 (q9.2 u (by omega))⟩
                    exact ih2 (u + 1, false) _ _ _ ⟨hq1, hI, hS, lv_sub hl [2, 3, 4, 5, 1, 0] rfl⟩ (by show t - (u + 1) < t - u; omega)
                  · refine lv_iconst (v := 1) hx hb dX4_held_111 (by decide) ?_
                    refine lv_goto (tgt := 116) hx hb dX4_held_112 (by decide) ?_
                    refine lv_istore (lv' := [(5, .int 1), (0, .ref (mH M)), (2, .int (sPl S pj)), (3, .int (nI ((hldF S (sPl S pj) t) + 0))), (4, .int (nI t)), (6, .int (nI u))]) hx hb dX4_held_116 hl (by decide) rfl (fun ls hl => ?_)
                    refine lv_iinc (v := nI (u + 1)) (lv' := [(6, .int (nI (u + 1))), (5, .int 1), (0, .ref (mH M)), (2, .int (sPl S pj)), (3, .int (nI ((hldF S (sPl S pj) t) + 0))), (4, .int (nI t))]) hx hb dX4_held_118 hl (k := 5) rfl (nI_1 _) (by decide) rfl (fun ls hl => ?_)
                    refine lv_goto (tgt := 82) hx hb dX4_held_121 (by decide) ?_
                    have hq1 : u + 1 ≤ t ∧ (true = true → (vR S (sPl S t) ∧ kdv S (sPl S t) = 2) ∧ ∀ x9, x9 < u + 1 → ¬ sPl S x9 = sPl S t) ∧ ((vR S (sPl S t) ∧ kdv S (sPl S t) = 2) ∧ (∀ x9, x9 < u + 1 → ¬ sPl S x9 = sPl S t) → true = true) := ⟨by omega, fun _ => ⟨(hb1 rfl).1, fun x9 h9 => by rcases Nat.lt_or_ge x9 u with q | q; exact (hb1 rfl).2 x9 q; rw [show x9 = u by omega]; exact c_29⟩, fun _ => rfl⟩
                    exact ih2 (u + 1, true) _ _ _ ⟨hq1, hI, hS, lv_sub hl [2, 3, 4, 5, 1, 0] rfl⟩ (by show t - (u + 1) < t - u; omega)
          · refine W.eq (g2 := F0 m 59 ls [.int 0]) rfl ?_
            refine lv_if_eq (tgt := 76) hx hb dX4_held_59 (by decide) (fun _ => ?_) (fun c => absurd c (by decide))
            refine lv_iconst (v := 0) hx hb dX4_held_76 (by decide) ?_
            refine lv_istore (lv' := [(5, .int 0), (3, .int (nI ((hldF S (sPl S pj) t) + 0))), (0, .ref (mH M)), (2, .int (sPl S pj)), (4, .int (nI t))]) hx hb dX4_held_77 hl (by decide) rfl (fun ls hl => ?_)
            refine lv_iconst (v := 0) hx hb dX4_held_79 (by decide) ?_
            refine lv_istore (lv' := [(6, .int 0), (5, .int 0), (3, .int (nI ((hldF S (sPl S pj) t) + 0))), (0, .ref (mH M)), (2, .int (sPl S pj)), (4, .int (nI t))]) hx hb dX4_held_80 hl (by decide) rfl (fun ls hl => ?_)
            have hn0 : ¬ (vR S (sPl S t) ∧ kdv S (sPl S t) = 2) := fun q9 => hr_8 q9.1
            have hq0 : 0 ≤ t ∧ (false = true → (vR S (sPl S t) ∧ kdv S (sPl S t) = 2) ∧ ∀ x9, x9 < 0 → ¬ sPl S x9 = sPl S t) ∧ ((vR S (sPl S t) ∧ kdv S (sPl S t) = 2) ∧ (∀ x9, x9 < 0 → ¬ sPl S x9 = sPl S t) → false = true) := ⟨Nat.zero_le _, fun e9 => Bool.noConfusion e9, fun q9 => absurd q9.1 hn0⟩
            refine lp_w (ι := Nat × Bool) (fun q9 => t - q9.1) (fun q9 H locs ls => (q9.1 ≤ t ∧ (q9.2 = true → (vR S (sPl S t) ∧ kdv S (sPl S t) = 2) ∧ ∀ x9, x9 < q9.1 → ¬ sPl S x9 = sPl S t) ∧ ((vR S (sPl S t) ∧ kdv S (sPl S t) = 2) ∧ (∀ x9, x9 < q9.1 → ¬ sPl S x9 = sPl S t) → q9.2 = true)) ∧ Hv E A w H ∧ va_S A s.heap H locs ∧ lv_has ls 7 [(0, .ref (mH M)), (2, .int (sPl S pj)), (3, .int (nI ((hldF S (sPl S pj) t) + 0))), (4, .int (nI t)), (5, .int (if q9.2 then 1 else 0)), (6, .int (nI q9.1))]) ?_ (0, false) _ _ _ ⟨hq0, hI, hS, lv_sub hl [3, 4, 2, 5, 1, 0] rfl⟩
            rintro ⟨u, b9⟩ H locs ls ⟨⟨hu, hb1, hb2⟩, hI, hS, hl⟩ ih2
            dsimp only at hu hb1 hb2 hl
            cases b9 with
            | false =>
              have hl : lv_has ls 7 [(0, .ref (mH M)), (2, .int (sPl S pj)), (3, .int (nI ((hldF S (sPl S pj) t) + 0))), (4, .int (nI t)), (5, .int 0), (6, .int (nI u))] := hl
              refine lv_iload hx hb dX4_held_82 (lv_at hl 5 rfl) ?_
              refine lv_iload hx hb dX4_held_84 (lv_at hl 3 rfl) ?_
              refine lv_icmp_ge (tgt := 124) hx hb dX4_held_86 (by decide) (fun c_30 => ?_) (fun c_30 => ?_)
              · have c_30 : t ≤ u := (nI_leI (a := t) (b := u) (by omega) (by omega)).mp c_30
                refine lv_iconst (v := 0) hx hb dX4_held_124 (by decide) ?_
                refine lv_istore (lv' := [(6, .int 0), (0, .ref (mH M)), (2, .int (sPl S pj)), (3, .int (nI ((hldF S (sPl S pj) t) + 0))), (4, .int (nI t)), (5, .int 0)]) hx hb dX4_held_125 hl (by decide) rfl (fun ls hl => ?_)
                have hnw9 : ¬ (¬ sPl S t = -1 ∧ kdv S (sPl S t) = 2 ∧ frs S t) := fun q9 => by
                  have h9 := hb2 ⟨⟨vO_row ((hW.1 t).resolve_left q9.1) (by rw [q9.2.1]; decide), q9.2.1⟩, fun x9 h9 => q9.2.2 x9 (by omega)⟩
                  cases h9
                refine lv_iload hx hb dX4_held_127 (lv_at hl 5 rfl) ?_
                refine lv_if_eq (tgt := 174) hx hb dX4_held_129 (by decide) (fun _ => ?_) (fun c => absurd c (by decide))
                refine lv_iinc (v := nI (t + 1)) (lv' := [(4, .int (nI (t + 1))), (6, .int 0), (0, .ref (mH M)), (2, .int (sPl S pj)), (3, .int (nI ((hldF S (sPl S pj) t) + 0))), (5, .int 0)]) hx hb dX4_held_174 hl (k := 4) rfl (nI_1 _) (by decide) rfl (fun ls hl => ?_)
                refine lv_goto (tgt := 22) hx hb dX4_held_177 (by decide) ?_
                have hst : hldF S (sPl S pj) (t + 1) = (hldF S (sPl S pj) t) + 0 := by simp only [hldF]; rw [if_neg c_5, if_neg hnw9]; try rfl
                exact ih (t + 1) _ _ _ ⟨by omega, hI, hS, lv_sub hl [2, 3, 4, 0] (by rw [hst]; rfl)⟩ (by omega)
              · have c_30 : ¬ t ≤ u := fun q => c_30 ((nI_leI (a := t) (b := u) (by omega) (by omega)).mpr q)
                refine lv_iload hx hb dX4_held_89 (lv_at hl 4 rfl) ?_
                refine lv_if_eq (tgt := 115) hx hb dX4_held_91 (by decide) (fun _ => ?_) (fun c => absurd c (by decide))
                refine lv_iconst (v := 0) hx hb dX4_held_115 (by decide) ?_
                refine lv_istore (lv' := [(5, .int 0), (0, .ref (mH M)), (2, .int (sPl S pj)), (3, .int (nI ((hldF S (sPl S pj) t) + 0))), (4, .int (nI t)), (6, .int (nI u))]) hx hb dX4_held_116 hl (by decide) rfl (fun ls hl => ?_)
                refine lv_iinc (v := nI (u + 1)) (lv' := [(6, .int (nI (u + 1))), (5, .int 0), (0, .ref (mH M)), (2, .int (sPl S pj)), (3, .int (nI ((hldF S (sPl S pj) t) + 0))), (4, .int (nI t))]) hx hb dX4_held_118 hl (k := 5) rfl (nI_1 _) (by decide) rfl (fun ls hl => ?_)
                refine lv_goto (tgt := 82) hx hb dX4_held_121 (by decide) ?_
                have hq1 : u + 1 ≤ t ∧ (false = true → (vR S (sPl S t) ∧ kdv S (sPl S t) = 2) ∧ ∀ x9, x9 < u + 1 → ¬ sPl S x9 = sPl S t) ∧ ((vR S (sPl S t) ∧ kdv S (sPl S t) = 2) ∧ (∀ x9, x9 < u + 1 → ¬ sPl S x9 = sPl S t) → false = true) := ⟨by omega, fun e9 => Bool.noConfusion e9, fun q9 => hb2 ⟨q9.1, fun x9 h9 => q9.2 x9 (by omega)⟩⟩
                exact ih2 (u + 1, false) _ _ _ ⟨hq1, hI, hS, lv_sub hl [2, 3, 4, 5, 1, 0] rfl⟩ (by show t - (u + 1) < t - u; omega)
            | true =>
              have hl : lv_has ls 7 [(0, .ref (mH M)), (2, .int (sPl S pj)), (3, .int (nI ((hldF S (sPl S pj) t) + 0))), (4, .int (nI t)), (5, .int 1), (6, .int (nI u))] := hl
              refine lv_iload hx hb dX4_held_82 (lv_at hl 5 rfl) ?_
              refine lv_iload hx hb dX4_held_84 (lv_at hl 3 rfl) ?_
              refine lv_icmp_ge (tgt := 124) hx hb dX4_held_86 (by decide) (fun c_31 => ?_) (fun c_31 => ?_)
              · have c_31 : t ≤ u := (nI_leI (a := t) (b := u) (by omega) (by omega)).mp c_31
                refine lv_iconst (v := 0) hx hb dX4_held_124 (by decide) ?_
                refine lv_istore (lv' := [(6, .int 0), (0, .ref (mH M)), (2, .int (sPl S pj)), (3, .int (nI ((hldF S (sPl S pj) t) + 0))), (4, .int (nI t)), (5, .int 1)]) hx hb dX4_held_125 hl (by decide) rfl (fun ls hl => ?_)
                have hnw9 : ¬ sPl S t = -1 ∧ kdv S (sPl S t) = 2 ∧ frs S t := ⟨fun e9 => (hb1 rfl).1.1.1 (by rw [e9]; decide), (hb1 rfl).1.2, fun x9 h9 => (hb1 rfl).2 x9 (by omega)⟩
                have hrt : vR S (sPl S t) := (hb1 rfl).1.1
                have hlt := hW.ln (Or.inl hrt)
                clear hu hb1 hb2
                refine lp_w (ι := Nat) (fun u => lnv S (sPl S t) - u) (fun u H locs ls => (u ≤ lnv S (sPl S t)) ∧ Hv E A w H ∧ va_S A s.heap H locs ∧ lv_has ls 7 [(0, .ref (mH M)), (2, .int (sPl S pj)), (3, .int (nI (((hldF S (sPl S pj) t) + 0) + cntI (itv S (sPl S t)) (sPl S pj) u))), (4, .int (nI t)), (5, .int 1), (6, .int (nI u))]) ?_ 0 _ _ _ ⟨Nat.zero_le _, hI, hS, lv_sub hl [1, 2, 3, 4, 5, 0] rfl⟩
                intro u H locs ls hq ih3
                obtain ⟨hu, hI, hS, hl⟩ := hq
                refine lv_iload hx hb dX4_held_127 (lv_at hl 4 rfl) ?_
                refine lv_if_eq (tgt := 174) hx hb dX4_held_129 (by decide) (fun c => absurd c (by decide)) (fun _ => ?_)
                refine lv_iload hx hb dX4_held_132 (lv_at hl 5 rfl) ?_
                refine lv_aload_n hx hb dX4_held_134 rfl (lv_at hl 0 rfl) ?_
                refine lv_iload hx hb dX4_held_135 (lv_at hl 3 rfl) ?_
                refine ca_V (As := [.int (nI t)]) (rest := [.int (nI u)]) (r0 := (RX4, TX4, 11)) (ci := 3) ⟨hx, hb, hml, hown, hts⟩ (cc_X4_lengthOf l E A _ (by omega) hW hR hrt) (cwV 1 hts gX4_held_X4_lengthOf rfl rfl rfl (by decide +kernel) ⟨(Nat.le_of_ble_eq_true rfl), (Nat.le_of_ble_eq_true rfl)⟩) hT hI hA hS rfl hR.1 rfl rfl hl.1 (Nat.le_of_ble_eq_true rfl) dX4_held_137 ⟨(Nat.le_of_ble_eq_true rfl), (Nat.le_of_ble_eq_true rfl)⟩ (fun r w_33 H locs hp_32 hI hS => ?_)
                obtain ⟨rfl, rfl⟩ := hp_32
                refine W.eq (g2 := F0 m 140 ls [.int (nI (lnv S (sPl S t))), .int (nI u)]) rfl ?_
                refine lv_icmp_ge (tgt := 174) hx hb dX4_held_140 (by decide) (fun c_34 => ?_) (fun c_34 => ?_)
                · have c_34 : lnv S (sPl S t) ≤ u := (nI_leI (a := lnv S (sPl S t)) (b := u) (by omega) (by omega)).mp c_34
                  refine lv_iinc (v := nI (t + 1)) (lv' := [(4, .int (nI (t + 1))), (0, .ref (mH M)), (2, .int (sPl S pj)), (3, .int (nI (((hldF S (sPl S pj) t) + 0) + cntI (itv S (sPl S t)) (sPl S pj) u))), (5, .int 1), (6, .int (nI u))]) hx hb dX4_held_174 hl (k := 3) rfl (nI_1 _) (by decide) rfl (fun ls hl => ?_)
                  refine lv_goto (tgt := 22) hx hb dX4_held_177 (by decide) ?_
                  have hst : hldF S (sPl S pj) (t + 1) = ((hldF S (sPl S pj) t) + 0) + cntI (itv S (sPl S t)) (sPl S pj) u := by simp only [hldF]; rw [if_neg c_5, if_pos hnw9, show u = lnv S (sPl S t) by omega]
                  exact ih (t + 1) _ _ _ ⟨by omega, hI, hS, lv_sub hl [1, 2, 3, 0] (by rw [hst]; rfl)⟩ (by omega)
                · have c_34 : ¬ lnv S (sPl S t) ≤ u := fun q => c_34 ((nI_leI (a := lnv S (sPl S t)) (b := u) (by omega) (by omega)).mpr q)
                  refine lv_iload_n hx hb dX4_held_143 rfl (lv_at hl 2 rfl) ?_
                  refine lv_aload_n hx hb dX4_held_144 rfl (lv_at hl 0 rfl) ?_
                  refine lv_aload_n hx hb dX4_held_145 rfl (lv_at hl 0 rfl) ?_
                  refine wr_get (ci := 3) (C := RX4) (T := TX4) (N := 11) (v := .ref (mP M)) hx hb hts in_X4 hown hT hI hR.1 rfl 1 (by decide) (hts (.fieldLink RX4 7 "CopyRowsModel" "places" "[I") (by decide +kernel)) rfl dX4_held_146 ?_
                  refine lv_iload hx hb dX4_held_149 (lv_at hl 3 rfl) ?_
                  refine wr_ialdN (t := t) (n := 12) (f := plF S) hx hb hT hI hR.2.1 (by omega) (by omega) dX4_held_151 ?_
                  refine W.eq (g2 := F0 m 152 ls [.int (sPl S t), .ref (mH M), .int (nI (((hldF S (sPl S pj) t) + 0) + cntI (itv S (sPl S t)) (sPl S pj) u))]) (by rw [plF_at (by omega)]) ?_
                  refine lv_iload hx hb dX4_held_152 (lv_at hl 5 rfl) ?_
                  refine ca_V (As := [.int (sPl S t), .int (nI u)]) (rest := [.int (nI (((hldF S (sPl S pj) t) + 0) + cntI (itv S (sPl S t)) (sPl S pj) u))]) (r0 := (RX4, TX4, 11)) (ci := 3) ⟨hx, hb, hml, hown, hts⟩ (cM_get l E A _ hrt (by have := hW.2.2.2; omega) (by omega) hR) (cwV 2 hts gX4_held_X4_get rfl rfl rfl (by decide +kernel) ⟨(Nat.le_of_ble_eq_true rfl), (Nat.le_of_ble_eq_true rfl)⟩) hT hI hA hS rfl hR.1 rfl rfl hl.1 (Nat.le_of_ble_eq_true rfl) dX4_held_154 ⟨(Nat.le_of_ble_eq_true rfl), (Nat.le_of_ble_eq_true rfl)⟩ (fun r w_36 H locs hp_35 hI hS => ?_)
                  obtain ⟨rfl, rfl⟩ := hp_35
                  refine W.eq (g2 := F0 m 157 ls [.int (itv S (sPl S t) u), .int (nI (((hldF S (sPl S pj) t) + 0) + cntI (itv S (sPl S t)) (sPl S pj) u))]) rfl ?_
                  refine lv_iload_n hx hb dX4_held_157 rfl (lv_at hl 1 rfl) ?_
                  refine lv_icmp_ne (tgt := 165) hx hb dX4_held_158 (by decide) (fun c_37 => ?_) (fun c_37 => ?_)
                  · refine lv_iconst (v := 0) hx hb dX4_held_165 (by decide) ?_
                    refine lv_iadd hx hb dX4_held_166 ?_
                    refine W.eq (g2 := F0 m 167 ls [.int (nI ((((hldF S (sPl S pj) t) + 0) + cntI (itv S (sPl S t)) (sPl S pj) u) + 0))]) (by rw [show (nI (((hldF S (sPl S pj) t) + 0) + cntI (itv S (sPl S t)) (sPl S pj) u) : Int32) + 0 = nI ((((hldF S (sPl S pj) t) + 0) + cntI (itv S (sPl S t)) (sPl S pj) u) + 0) from nI_add (((hldF S (sPl S pj) t) + 0) + cntI (itv S (sPl S t)) (sPl S pj) u) 0]) ?_
                    refine lv_istore_n (lv' := [(3, .int (nI ((((hldF S (sPl S pj) t) + 0) + cntI (itv S (sPl S t)) (sPl S pj) u) + 0))), (0, .ref (mH M)), (2, .int (sPl S pj)), (4, .int (nI t)), (5, .int 1), (6, .int (nI u))]) hx hb dX4_held_167 rfl hl (by decide) rfl (fun ls hl => ?_)
                    refine lv_iinc (v := nI (u + 1)) (lv' := [(6, .int (nI (u + 1))), (3, .int (nI ((((hldF S (sPl S pj) t) + 0) + cntI (itv S (sPl S t)) (sPl S pj) u) + 0))), (0, .ref (mH M)), (2, .int (sPl S pj)), (4, .int (nI t)), (5, .int 1)]) hx hb dX4_held_168 hl (k := 5) rfl (nI_1 _) (by decide) rfl (fun ls hl => ?_)
                    refine lv_goto (tgt := 127) hx hb dX4_held_171 (by decide) ?_
                    exact ih3 (u + 1) _ _ _ ⟨by omega, hI, hS, lv_sub hl [2, 3, 1, 4, 5, 0] (by simp [lv_pick, cntI, c_37, Nat.add_assoc])⟩ (by omega)
                  · refine lv_iconst (v := 1) hx hb dX4_held_161 (by decide) ?_
                    refine lv_goto (tgt := 166) hx hb dX4_held_162 (by decide) ?_
                    refine lv_iadd hx hb dX4_held_166 ?_
                    refine W.eq (g2 := F0 m 167 ls [.int (nI ((((hldF S (sPl S pj) t) + 0) + cntI (itv S (sPl S t)) (sPl S pj) u) + 1))]) (by rw [show (nI (((hldF S (sPl S pj) t) + 0) + cntI (itv S (sPl S t)) (sPl S pj) u) : Int32) + 1 = nI ((((hldF S (sPl S pj) t) + 0) + cntI (itv S (sPl S t)) (sPl S pj) u) + 1) from nI_add (((hldF S (sPl S pj) t) + 0) + cntI (itv S (sPl S t)) (sPl S pj) u) 1]) ?_
                    refine lv_istore_n (lv' := [(3, .int (nI ((((hldF S (sPl S pj) t) + 0) + cntI (itv S (sPl S t)) (sPl S pj) u) + 1))), (0, .ref (mH M)), (2, .int (sPl S pj)), (4, .int (nI t)), (5, .int 1), (6, .int (nI u))]) hx hb dX4_held_167 rfl hl (by decide) rfl (fun ls hl => ?_)
                    refine lv_iinc (v := nI (u + 1)) (lv' := [(6, .int (nI (u + 1))), (3, .int (nI ((((hldF S (sPl S pj) t) + 0) + cntI (itv S (sPl S t)) (sPl S pj) u) + 1))), (0, .ref (mH M)), (2, .int (sPl S pj)), (4, .int (nI t)), (5, .int 1)]) hx hb dX4_held_168 hl (k := 5) rfl (nI_1 _) (by decide) rfl (fun ls hl => ?_)
                    refine lv_goto (tgt := 127) hx hb dX4_held_171 (by decide) ?_
                    exact ih3 (u + 1) _ _ _ ⟨by omega, hI, hS, lv_sub hl [2, 3, 1, 4, 5, 0] (by simp [lv_pick, cntI, c_37, Nat.add_assoc])⟩ (by omega)
              · have c_31 : ¬ t ≤ u := fun q => c_31 ((nI_leI (a := t) (b := u) (by omega) (by omega)).mpr q)
                refine lv_iload hx hb dX4_held_89 (lv_at hl 4 rfl) ?_
                refine lv_if_eq (tgt := 115) hx hb dX4_held_91 (by decide) (fun c => absurd c (by decide)) (fun _ => ?_)
                refine lv_aload_n hx hb dX4_held_94 rfl (lv_at hl 0 rfl) ?_
                refine wr_get (ci := 3) (C := RX4) (T := TX4) (N := 11) (v := .ref (mP M)) hx hb hts in_X4 hown hT hI hR.1 rfl 1 (by decide) (hts (.fieldLink RX4 7 "CopyRowsModel" "places" "[I") (by decide +kernel)) rfl dX4_held_95 ?_
                refine lv_iload hx hb dX4_held_98 (lv_at hl 5 rfl) ?_
                refine wr_ialdN (t := u) (n := 12) (f := plF S) hx hb hT hI hR.2.1 (by omega) (by omega) dX4_held_100 ?_
                refine W.eq (g2 := F0 m 101 ls [.int (sPl S u)]) (by rw [plF_at (by omega)]) ?_
                refine lv_aload_n hx hb dX4_held_101 rfl (lv_at hl 0 rfl) ?_
                refine wr_get (ci := 3) (C := RX4) (T := TX4) (N := 11) (v := .ref (mP M)) hx hb hts in_X4 hown hT hI hR.1 rfl 1 (by decide) (hts (.fieldLink RX4 7 "CopyRowsModel" "places" "[I") (by decide +kernel)) rfl dX4_held_102 ?_
                refine lv_iload hx hb dX4_held_105 (lv_at hl 3 rfl) ?_
                refine wr_ialdN (t := t) (n := 12) (f := plF S) hx hb hT hI hR.2.1 (by omega) (by omega) dX4_held_107 ?_
                refine W.eq (g2 := F0 m 108 ls [.int (sPl S t), .int (sPl S u)]) (by rw [plF_at (by omega)]) ?_
                refine lv_icmp_eq (tgt := 115) hx hb dX4_held_108 (by decide) (fun c_38 => ?_) (fun c_38 => ?_)
                · refine lv_iconst (v := 0) hx hb dX4_held_115 (by decide) ?_
                  refine lv_istore (lv' := [(5, .int 0), (0, .ref (mH M)), (2, .int (sPl S pj)), (3, .int (nI ((hldF S (sPl S pj) t) + 0))), (4, .int (nI t)), (6, .int (nI u))]) hx hb dX4_held_116 hl (by decide) rfl (fun ls hl => ?_)
                  refine lv_iinc (v := nI (u + 1)) (lv' := [(6, .int (nI (u + 1))), (5, .int 0), (0, .ref (mH M)), (2, .int (sPl S pj)), (3, .int (nI ((hldF S (sPl S pj) t) + 0))), (4, .int (nI t))]) hx hb dX4_held_118 hl (k := 5) rfl (nI_1 _) (by decide) rfl (fun ls hl => ?_)
                  refine lv_goto (tgt := 82) hx hb dX4_held_121 (by decide) ?_
                  have hq1 : u + 1 ≤ t ∧ (false = true → (vR S (sPl S t) ∧ kdv S (sPl S t) = 2) ∧ ∀ x9, x9 < u + 1 → ¬ sPl S x9 = sPl S t) ∧ ((vR S (sPl S t) ∧ kdv S (sPl S t) = 2) ∧ (∀ x9, x9 < u + 1 → ¬ sPl S x9 = sPl S t) → false = true) := ⟨by omega, fun e9 => Bool.noConfusion e9, fun q9 => absurd c_38 (q9.2 u (by omega))⟩
                  exact ih2 (u + 1, false) _ _ _ ⟨hq1, hI, hS, lv_sub hl [2, 3, 4, 5, 1, 0] rfl⟩ (by show t - (u + 1) < t - u; omega)
                · refine lv_iconst (v := 1) hx hb dX4_held_111 (by decide) ?_
                  refine lv_goto (tgt := 116) hx hb dX4_held_112 (by decide) ?_
                  refine lv_istore (lv' := [(5, .int 1), (0, .ref (mH M)), (2, .int (sPl S pj)), (3, .int (nI ((hldF S (sPl S pj) t) + 0))), (4, .int (nI t)), (6, .int (nI u))]) hx hb dX4_held_116 hl (by decide) rfl (fun ls hl => ?_)
                  refine lv_iinc (v := nI (u + 1)) (lv' := [(6, .int (nI (u + 1))), (5, .int 1), (0, .ref (mH M)), (2, .int (sPl S pj)), (3, .int (nI ((hldF S (sPl S pj) t) + 0))), (4, .int (nI t))]) hx hb dX4_held_118 hl (k := 5) rfl (nI_1 _) (by decide) rfl (fun ls hl => ?_)
                  refine lv_goto (tgt := 82) hx hb dX4_held_121 (by decide) ?_
                  have hq1 : u + 1 ≤ t ∧ (true = true → (vR S (sPl S t) ∧ kdv S (sPl S t) = 2) ∧ ∀ x9, x9 < u + 1 → ¬ sPl S x9 = sPl S t) ∧ ((vR S (sPl S t) ∧ kdv S (sPl S t) = 2) ∧ (∀ x9, x9 < u + 1 → ¬ sPl S x9 = sPl S t) → true = true) := ⟨by omega, fun _ => ⟨(hb1 rfl).1, fun x9 h9 => by rcases Nat.lt_or_ge x9 u with q | q; exact (hb1 rfl).2 x9 q; rw [show x9 = u by omega]; exact c_38⟩, fun _ => rfl⟩
                  exact ih2 (u + 1, true) _ _ _ ⟨hq1, hI, hS, lv_sub hl [2, 3, 4, 5, 1, 0] rfl⟩ (by show t - (u + 1) < t - u; omega)
        · refine lv_iconst (v := 1) hx hb dX4_held_46 (by decide) ?_
          refine lv_goto (tgt := 51) hx hb dX4_held_47 (by decide) ?_
          refine lv_iadd hx hb dX4_held_51 ?_
          refine W.eq (g2 := F0 m 52 ls [.int (nI ((hldF S (sPl S pj) t) + 1))]) (by rw [show (nI (hldF S (sPl S pj) t) : Int32) + 1 = nI ((hldF S (sPl S pj) t) + 1) from nI_add (hldF S (sPl S pj) t) 1]) ?_
          refine lv_istore_n (lv' := [(3, .int (nI ((hldF S (sPl S pj) t) + 1))), (0, .ref (mH M)), (2, .int (sPl S pj)), (4, .int (nI t))]) hx hb dX4_held_52 rfl hl (by decide) rfl (fun ls hl => ?_)
          refine lv_aload_n hx hb dX4_held_53 rfl (lv_at hl 1 rfl) ?_
          refine lv_iload hx hb dX4_held_54 (lv_at hl 3 rfl) ?_
          refine ca_V (As := [.int (nI t)]) (rest := []) (r0 := (RX4, TX4, 11)) (ci := 3) ⟨hx, hb, hml, hown, hts⟩ (cc_X4_isRow l E A _ (by omega) hW hR) (cwV 1 hts gX4_held_X4_isRow rfl rfl rfl (by decide +kernel) ⟨(Nat.le_of_ble_eq_true rfl), (Nat.le_of_ble_eq_true rfl)⟩) hT hI hA hS rfl hR.1 rfl rfl hl.1 (Nat.le_of_ble_eq_true rfl) dX4_held_56 ⟨(Nat.le_of_ble_eq_true rfl), (Nat.le_of_ble_eq_true rfl)⟩ (fun r w_40 H locs hp_39 hI hS => ?_)
          obtain ⟨rfl, ⟨hr_41, rfl⟩ | ⟨hr_41, rfl⟩⟩ := hp_39
          · have hr_41n : ¬ sPl S t = -1 := fun e9 => hr_41.1 (by rw [e9]; decide)
            have hr_41l := hW.ln (Or.inl hr_41)
            refine W.eq (g2 := F0 m 59 ls [.int 1]) rfl ?_
            refine lv_if_eq (tgt := 76) hx hb dX4_held_59 (by decide) (fun c => absurd c (by decide)) (fun _ => ?_)
            refine lv_aload_n hx hb dX4_held_62 rfl (lv_at hl 1 rfl) ?_
            refine lv_iload hx hb dX4_held_63 (lv_at hl 3 rfl) ?_
            refine ca_V (As := [.int (nI t)]) (rest := []) (r0 := (RX4, TX4, 11)) (ci := 3) ⟨hx, hb, hml, hown, hts⟩ (cc_X4_kindOf l E A _ (by omega) hW hR) (cwV 1 hts gX4_held_X4_kindOf rfl rfl rfl (by decide +kernel) ⟨(Nat.le_of_ble_eq_true rfl), (Nat.le_of_ble_eq_true rfl)⟩) hT hI hA hS rfl hR.1 rfl rfl hl.1 (Nat.le_of_ble_eq_true rfl) dX4_held_65 ⟨(Nat.le_of_ble_eq_true rfl), (Nat.le_of_ble_eq_true rfl)⟩ (fun r w_43 H locs hp_42 hI hS => ?_)
            obtain ⟨rfl, rfl⟩ := hp_42
            rw [kp_ne hr_41n]
            refine W.eq (g2 := F0 m 68 ls [.int (kdv S (sPl S t))]) rfl ?_
            refine lv_iconst (v := 2) hx hb dX4_held_68 (by decide) ?_
            refine lv_icmp_ne (tgt := 76) hx hb dX4_held_69 (by decide) (fun c_44 => ?_) (fun c_44 => ?_)
            · refine lv_iconst (v := 0) hx hb dX4_held_76 (by decide) ?_
              refine lv_istore (lv' := [(5, .int 0), (3, .int (nI ((hldF S (sPl S pj) t) + 1))), (0, .ref (mH M)), (2, .int (sPl S pj)), (4, .int (nI t))]) hx hb dX4_held_77 hl (by decide) rfl (fun ls hl => ?_)
              refine lv_iconst (v := 0) hx hb dX4_held_79 (by decide) ?_
              refine lv_istore (lv' := [(6, .int 0), (5, .int 0), (3, .int (nI ((hldF S (sPl S pj) t) + 1))), (0, .ref (mH M)), (2, .int (sPl S pj)), (4, .int (nI t))]) hx hb dX4_held_80 hl (by decide) rfl (fun ls hl => ?_)
              have hn0 : ¬ (vR S (sPl S t) ∧ kdv S (sPl S t) = 2) := fun q9 => c_44 q9.2
              have hq0 : 0 ≤ t ∧ (false = true → (vR S (sPl S t) ∧ kdv S (sPl S t) = 2) ∧ ∀ x9, x9 < 0 → ¬ sPl S x9 = sPl S t) ∧ ((vR S (sPl S t) ∧ kdv S (sPl S t) = 2) ∧ (∀ x9, x9 < 0 → ¬ sPl S x9 = sPl S t) → false = true) := ⟨Nat.zero_le _, fun e9 => Bool.noConfusion e9, fun q9 => absurd q9.1 hn0⟩
              refine lp_w (ι := Nat × Bool) (fun q9 => t - q9.1) (fun q9 H locs ls => (q9.1 ≤ t ∧ (q9.2 = true → (vR S (sPl S t) ∧ kdv S (sPl S t) = 2) ∧ ∀ x9, x9 < q9.1 → ¬ sPl S x9 = sPl S t) ∧ ((vR S (sPl S t) ∧ kdv S (sPl S t) = 2) ∧ (∀ x9, x9 < q9.1 → ¬ sPl S x9 = sPl S t) → q9.2 = true)) ∧ Hv E A w H ∧ va_S A s.heap H locs ∧ lv_has ls 7 [(0, .ref (mH M)), (2, .int (sPl S pj)), (3, .int (nI ((hldF S (sPl S pj) t) + 1))), (4, .int (nI t)), (5, .int (if q9.2 then 1 else 0)), (6, .int (nI q9.1))]) ?_ (0, false) _ _ _ ⟨hq0, hI, hS, lv_sub hl [3, 4, 2, 5, 1, 0] rfl⟩
              rintro ⟨u, b9⟩ H locs ls ⟨⟨hu, hb1, hb2⟩, hI, hS, hl⟩ ih2
              dsimp only at hu hb1 hb2 hl
              cases b9 with
              | false =>
                have hl : lv_has ls 7 [(0, .ref (mH M)), (2, .int (sPl S pj)), (3, .int (nI ((hldF S (sPl S pj) t) + 1))), (4, .int (nI t)), (5, .int 0), (6, .int (nI u))] := hl
                refine lv_iload hx hb dX4_held_82 (lv_at hl 5 rfl) ?_
                refine lv_iload hx hb dX4_held_84 (lv_at hl 3 rfl) ?_
                refine lv_icmp_ge (tgt := 124) hx hb dX4_held_86 (by decide) (fun c_45 => ?_) (fun c_45 => ?_)
                · have c_45 : t ≤ u := (nI_leI (a := t) (b := u) (by omega) (by omega)).mp c_45
                  refine lv_iconst (v := 0) hx hb dX4_held_124 (by decide) ?_
                  refine lv_istore (lv' := [(6, .int 0), (0, .ref (mH M)), (2, .int (sPl S pj)), (3, .int (nI ((hldF S (sPl S pj) t) + 1))), (4, .int (nI t)), (5, .int 0)]) hx hb dX4_held_125 hl (by decide) rfl (fun ls hl => ?_)
                  have hnw9 : ¬ (¬ sPl S t = -1 ∧ kdv S (sPl S t) = 2 ∧ frs S t) := fun q9 => by
                    have h9 := hb2 ⟨⟨vO_row ((hW.1 t).resolve_left q9.1) (by rw [q9.2.1]; decide), q9.2.1⟩, fun x9 h9 => q9.2.2 x9 (by omega)⟩
                    cases h9
                  refine lv_iload hx hb dX4_held_127 (lv_at hl 5 rfl) ?_
                  refine lv_if_eq (tgt := 174) hx hb dX4_held_129 (by decide) (fun _ => ?_) (fun c => absurd c (by decide))
                  refine lv_iinc (v := nI (t + 1)) (lv' := [(4, .int (nI (t + 1))), (6, .int 0), (0, .ref (mH M)), (2, .int (sPl S pj)), (3, .int (nI ((hldF S (sPl S pj) t) + 1))), (5, .int 0)]) hx hb dX4_held_174 hl (k := 4) rfl (nI_1 _) (by decide) rfl (fun ls hl => ?_)
                  refine lv_goto (tgt := 22) hx hb dX4_held_177 (by decide) ?_
                  have hst : hldF S (sPl S pj) (t + 1) = (hldF S (sPl S pj) t) + 1 := by simp only [hldF]; rw [if_pos c_5, if_neg hnw9]; try rfl
                  exact ih (t + 1) _ _ _ ⟨by omega, hI, hS, lv_sub hl [2, 3, 4, 0] (by rw [hst]; rfl)⟩ (by omega)
                · have c_45 : ¬ t ≤ u := fun q => c_45 ((nI_leI (a := t) (b := u) (by omega) (by omega)).mpr q)
                  refine lv_iload hx hb dX4_held_89 (lv_at hl 4 rfl) ?_
                  refine lv_if_eq (tgt := 115) hx hb dX4_held_91 (by decide) (fun _ => ?_) (fun c => absurd c (by decide))
                  refine lv_iconst (v := 0) hx hb dX4_held_115 (by decide) ?_
                  refine lv_istore (lv' := [(5, .int 0), (0, .ref (mH M)), (2, .int (sPl S pj)), (3, .int (nI ((hldF S (sPl S pj) t) + 1))), (4, .int (nI t)), (6, .int (nI u))]) hx hb dX4_held_116 hl (by decide) rfl (fun ls hl => ?_)
                  refine lv_iinc (v := nI (u + 1)) (lv' := [(6, .int (nI (u + 1))), (5, .int 0), (0, .ref (mH M)), (2, .int (sPl S pj)), (3, .int (nI ((hldF S (sPl S pj) t) + 1))), (4, .int (nI t))]) hx hb dX4_held_118 hl (k := 5) rfl (nI_1 _) (by decide) rfl (fun ls hl => ?_)
                  refine lv_goto (tgt := 82) hx hb dX4_held_121 (by decide) ?_
                  have hq1 : u + 1 ≤ t ∧ (false = true → (vR S (sPl S t) ∧ kdv S (sPl S t) = 2) ∧ ∀ x9, x9 < u + 1 → ¬ sPl S x9 = sPl S t) ∧ ((vR S (sPl S t) ∧ kdv S (sPl S t) = 2) ∧ (∀ x9, x9 < u + 1 → ¬ sPl S x9 = sPl S t) → false = true) := ⟨by omega, fun e9 => Bool.noConfusion e9, fun q9 => hb2 ⟨q9.1, fun x9 h9 => q9.2 x9 (by omega)⟩⟩
                  exact ih2 (u + 1, false) _ _ _ ⟨hq1, hI, hS, lv_sub hl [2, 3, 4, 5, 1, 0] rfl⟩ (by show t - (u + 1) < t - u; omega)
              | true =>
                have hl : lv_has ls 7 [(0, .ref (mH M)), (2, .int (sPl S pj)), (3, .int (nI ((hldF S (sPl S pj) t) + 1))), (4, .int (nI t)), (5, .int 1), (6, .int (nI u))] := hl
                refine lv_iload hx hb dX4_held_82 (lv_at hl 5 rfl) ?_
                refine lv_iload hx hb dX4_held_84 (lv_at hl 3 rfl) ?_
                refine lv_icmp_ge (tgt := 124) hx hb dX4_held_86 (by decide) (fun c_46 => ?_) (fun c_46 => ?_)
                · have c_46 : t ≤ u := (nI_leI (a := t) (b := u) (by omega) (by omega)).mp c_46
                  refine lv_iconst (v := 0) hx hb dX4_held_124 (by decide) ?_
                  refine lv_istore (lv' := [(6, .int 0), (0, .ref (mH M)), (2, .int (sPl S pj)), (3, .int (nI ((hldF S (sPl S pj) t) + 1))), (4, .int (nI t)), (5, .int 1)]) hx hb dX4_held_125 hl (by decide) rfl (fun ls hl => ?_)
                  have hnw9 : ¬ sPl S t = -1 ∧ kdv S (sPl S t) = 2 ∧ frs S t := ⟨fun e9 => (hb1 rfl).1.1.1 (by rw [e9]; decide), (hb1 rfl).1.2, fun x9 h9 => (hb1 rfl).2 x9 (by omega)⟩
                  have hrt : vR S (sPl S t) := (hb1 rfl).1.1
                  have hlt := hW.ln (Or.inl hrt)
                  clear hu hb1 hb2
                  refine lp_w (ι := Nat) (fun u => lnv S (sPl S t) - u) (fun u H locs ls => (u ≤ lnv S (sPl S t)) ∧ Hv E A w H ∧ va_S A s.heap H locs ∧ lv_has ls 7 [(0, .ref (mH M)), (2, .int (sPl S pj)), (3, .int (nI (((hldF S (sPl S pj) t) + 1) + cntI (itv S (sPl S t)) (sPl S pj) u))), (4, .int (nI t)), (5, .int 1), (6, .int (nI u))]) ?_ 0 _ _ _ ⟨Nat.zero_le _, hI, hS, lv_sub hl [1, 2, 3, 4, 5, 0] rfl⟩
                  intro u H locs ls hq ih3
                  obtain ⟨hu, hI, hS, hl⟩ := hq
                  refine lv_iload hx hb dX4_held_127 (lv_at hl 4 rfl) ?_
                  refine lv_if_eq (tgt := 174) hx hb dX4_held_129 (by decide) (fun c => absurd c (by decide)) (fun _ => ?_)
                  refine lv_iload hx hb dX4_held_132 (lv_at hl 5 rfl) ?_
                  refine lv_aload_n hx hb dX4_held_134 rfl (lv_at hl 0 rfl) ?_
                  refine lv_iload hx hb dX4_held_135 (lv_at hl 3 rfl) ?_
                  refine ca_V (As := [.int (nI t)]) (rest := [.int (nI u)]) (r0 := (RX4, TX4, 11)) (ci := 3) ⟨hx, hb, hml, hown, hts⟩ (cc_X4_lengthOf l E A _ (by omega) hW hR hrt) (cwV 1 hts gX4_held_X4_lengthOf rfl rfl rfl (by decide +kernel) ⟨(Nat.le_of_ble_eq_true rfl), (Nat.le_of_ble_eq_true rfl)⟩) hT hI hA hS rfl hR.1 rfl rfl hl.1 (Nat.le_of_ble_eq_true rfl) dX4_held_137 ⟨(Nat.le_of_ble_eq_true rfl), (Nat.le_of_ble_eq_true rfl)⟩ (fun r w_48 H locs hp_47 hI hS => ?_)
                  obtain ⟨rfl, rfl⟩ := hp_47
                  refine W.eq (g2 := F0 m 140 ls [.int (nI (lnv S (sPl S t))), .int (nI u)]) rfl ?_
                  refine lv_icmp_ge (tgt := 174) hx hb dX4_held_140 (by decide) (fun c_49 => ?_) (fun c_49 => ?_)
                  · have c_49 : lnv S (sPl S t) ≤ u := (nI_leI (a := lnv S (sPl S t)) (b := u) (by omega) (by omega)).mp c_49
                    refine lv_iinc (v := nI (t + 1)) (lv' := [(4, .int (nI (t + 1))), (0, .ref (mH M)), (2, .int (sPl S pj)), (3, .int (nI (((hldF S (sPl S pj) t) + 1) + cntI (itv S (sPl S t)) (sPl S pj) u))), (5, .int 1), (6, .int (nI u))]) hx hb dX4_held_174 hl (k := 3) rfl (nI_1 _) (by decide) rfl (fun ls hl => ?_)
                    refine lv_goto (tgt := 22) hx hb dX4_held_177 (by decide) ?_
                    have hst : hldF S (sPl S pj) (t + 1) = ((hldF S (sPl S pj) t) + 1) + cntI (itv S (sPl S t)) (sPl S pj) u := by simp only [hldF]; rw [if_pos c_5, if_pos hnw9, show u = lnv S (sPl S t) by omega]
                    exact ih (t + 1) _ _ _ ⟨by omega, hI, hS, lv_sub hl [1, 2, 3, 0] (by rw [hst]; rfl)⟩ (by omega)
                  · have c_49 : ¬ lnv S (sPl S t) ≤ u := fun q => c_49 ((nI_leI (a := lnv S (sPl S t)) (b := u) (by omega) (by omega)).mpr q)
                    refine lv_iload_n hx hb dX4_held_143 rfl (lv_at hl 2 rfl) ?_
                    refine lv_aload_n hx hb dX4_held_144 rfl (lv_at hl 0 rfl) ?_
                    refine lv_aload_n hx hb dX4_held_145 rfl (lv_at hl 0 rfl) ?_
                    refine wr_get (ci := 3) (C := RX4) (T := TX4) (N := 11) (v := .ref (mP M)) hx hb hts in_X4 hown hT hI hR.1 rfl 1 (by decide) (hts (.fieldLink RX4 7 "CopyRowsModel" "places" "[I") (by decide +kernel)) rfl dX4_held_146 ?_
                    refine lv_iload hx hb dX4_held_149 (lv_at hl 3 rfl) ?_
                    refine wr_ialdN (t := t) (n := 12) (f := plF S) hx hb hT hI hR.2.1 (by omega) (by omega) dX4_held_151 ?_
                    refine W.eq (g2 := F0 m 152 ls [.int (sPl S t), .ref (mH M), .int (nI (((hldF S (sPl S pj) t) + 1) + cntI (itv S (sPl S t)) (sPl S pj) u))]) (by rw [plF_at (by omega)]) ?_
                    refine lv_iload hx hb dX4_held_152 (lv_at hl 5 rfl) ?_
                    refine ca_V (As := [.int (sPl S t), .int (nI u)]) (rest := [.int (nI (((hldF S (sPl S pj) t) + 1) + cntI (itv S (sPl S t)) (sPl S pj) u))]) (r0 := (RX4, TX4, 11)) (ci := 3) ⟨hx, hb, hml, hown, hts⟩ (cM_get l E A _ hrt (by have := hW.2.2.2; omega) (by omega) hR) (cwV 2 hts gX4_held_X4_get rfl rfl rfl (by decide +kernel) ⟨(Nat.le_of_ble_eq_true rfl), (Nat.le_of_ble_eq_true rfl)⟩) hT hI hA hS rfl hR.1 rfl rfl hl.1 (Nat.le_of_ble_eq_true rfl) dX4_held_154 ⟨(Nat.le_of_ble_eq_true rfl), (Nat.le_of_ble_eq_true rfl)⟩ (fun r w_51 H locs hp_50 hI hS => ?_)
                    obtain ⟨rfl, rfl⟩ := hp_50
                    refine W.eq (g2 := F0 m 157 ls [.int (itv S (sPl S t) u), .int (nI (((hldF S (sPl S pj) t) + 1) + cntI (itv S (sPl S t)) (sPl S pj) u))]) rfl ?_
                    refine lv_iload_n hx hb dX4_held_157 rfl (lv_at hl 1 rfl) ?_
                    refine lv_icmp_ne (tgt := 165) hx hb dX4_held_158 (by decide) (fun c_52 => ?_) (fun c_52 => ?_)
                    · refine lv_iconst (v := 0) hx hb dX4_held_165 (by decide) ?_
                      refine lv_iadd hx hb dX4_held_166 ?_
                      refine W.eq (g2 := F0 m 167 ls [.int (nI ((((hldF S (sPl S pj) t) + 1) + cntI (itv S (sPl S t)) (sPl S pj) u) + 0))]) (by rw [show (nI (((hldF S (sPl S pj) t) + 1) + cntI (itv S (sPl S t)) (sPl S pj) u) : Int32) + 0 = nI ((((hldF S (sPl S pj) t) + 1) + cntI (itv S (sPl S t)) (sPl S pj) u) + 0) from nI_add (((hldF S (sPl S pj) t) + 1) + cntI (itv S (sPl S t)) (sPl S pj) u) 0]) ?_
                      refine lv_istore_n (lv' := [(3, .int (nI ((((hldF S (sPl S pj) t) + 1) + cntI (itv S (sPl S t)) (sPl S pj) u) + 0))), (0, .ref (mH M)), (2, .int (sPl S pj)), (4, .int (nI t)), (5, .int 1), (6, .int (nI u))]) hx hb dX4_held_167 rfl hl (by decide) rfl (fun ls hl => ?_)
                      refine lv_iinc (v := nI (u + 1)) (lv' := [(6, .int (nI (u + 1))), (3, .int (nI ((((hldF S (sPl S pj) t) + 1) + cntI (itv S (sPl S t)) (sPl S pj) u) + 0))), (0, .ref (mH M)), (2, .int (sPl S pj)), (4, .int (nI t)), (5, .int 1)]) hx hb dX4_held_168 hl (k := 5) rfl (nI_1 _) (by decide) rfl (fun ls hl => ?_)
                      refine lv_goto (tgt := 127) hx hb dX4_held_171 (by decide) ?_
                      exact ih3 (u + 1) _ _ _ ⟨by omega, hI, hS, lv_sub hl [2, 3, 1, 4, 5, 0] (by simp [lv_pick, cntI, c_52, Nat.add_assoc])⟩ (by omega)
                    · refine lv_iconst (v := 1) hx hb dX4_held_161 (by decide) ?_
                      refine lv_goto (tgt := 166) hx hb dX4_held_162 (by decide) ?_
                      refine lv_iadd hx hb dX4_held_166 ?_
                      refine W.eq (g2 := F0 m 167 ls [.int (nI ((((hldF S (sPl S pj) t) + 1) + cntI (itv S (sPl S t)) (sPl S pj) u) + 1))]) (by rw [show (nI (((hldF S (sPl S pj) t) + 1) + cntI (itv S (sPl S t)) (sPl S pj) u) : Int32) + 1 = nI ((((hldF S (sPl S pj) t) + 1) + cntI (itv S (sPl S t)) (sPl S pj) u) + 1) from nI_add (((hldF S (sPl S pj) t) + 1) + cntI (itv S (sPl S t)) (sPl S pj) u) 1]) ?_
                      refine lv_istore_n (lv' := [(3, .int (nI ((((hldF S (sPl S pj) t) + 1) + cntI (itv S (sPl S t)) (sPl S pj) u) + 1))), (0, .ref (mH M)), (2, .int (sPl S pj)), (4, .int (nI t)), (5, .int 1), (6, .int (nI u))]) hx hb dX4_held_167 rfl hl (by decide) rfl (fun ls hl => ?_)
                      refine lv_iinc (v := nI (u + 1)) (lv' := [(6, .int (nI (u + 1))), (3, .int (nI ((((hldF S (sPl S pj) t) + 1) + cntI (itv S (sPl S t)) (sPl S pj) u) + 1))), (0, .ref (mH M)), (2, .int (sPl S pj)), (4, .int (nI t)), (5, .int 1)]) hx hb dX4_held_168 hl (k := 5) rfl (nI_1 _) (by decide) rfl (fun ls hl => ?_)
                      refine lv_goto (tgt := 127) hx hb dX4_held_171 (by decide) ?_
                      exact ih3 (u + 1) _ _ _ ⟨by omega, hI, hS, lv_sub hl [2, 3, 1, 4, 5, 0] (by simp [lv_pick, cntI, c_52, Nat.add_assoc])⟩ (by omega)
                · have c_46 : ¬ t ≤ u := fun q => c_46 ((nI_leI (a := t) (b := u) (by omega) (by omega)).mpr q)
                  refine lv_iload hx hb dX4_held_89 (lv_at hl 4 rfl) ?_
                  refine lv_if_eq (tgt := 115) hx hb dX4_held_91 (by decide) (fun c => absurd c (by decide)) (fun _ => ?_)
                  refine lv_aload_n hx hb dX4_held_94 rfl (lv_at hl 0 rfl) ?_
                  refine wr_get (ci := 3) (C := RX4) (T := TX4) (N := 11) (v := .ref (mP M)) hx hb hts in_X4 hown hT hI hR.1 rfl 1 (by decide) (hts (.fieldLink RX4 7 "CopyRowsModel" "places" "[I") (by decide +kernel)) rfl dX4_held_95 ?_
                  refine lv_iload hx hb dX4_held_98 (lv_at hl 5 rfl) ?_
                  refine wr_ialdN (t := u) (n := 12) (f := plF S) hx hb hT hI hR.2.1 (by omega) (by omega) dX4_held_100 ?_
                  refine W.eq (g2 := F0 m 101 ls [.int (sPl S u)]) (by rw [plF_at (by omega)]) ?_
                  refine lv_aload_n hx hb dX4_held_101 rfl (lv_at hl 0 rfl) ?_
                  refine wr_get (ci := 3) (C := RX4) (T := TX4) (N := 11) (v := .ref (mP M)) hx hb hts in_X4 hown hT hI hR.1 rfl 1 (by decide) (hts (.fieldLink RX4 7 "CopyRowsModel" "places" "[I") (by decide +kernel)) rfl dX4_held_102 ?_
                  refine lv_iload hx hb dX4_held_105 (lv_at hl 3 rfl) ?_
                  refine wr_ialdN (t := t) (n := 12) (f := plF S) hx hb hT hI hR.2.1 (by omega) (by omega) dX4_held_107 ?_
                  refine W.eq (g2 := F0 m 108 ls [.int (sPl S t), .int (sPl S u)]) (by rw [plF_at (by omega)]) ?_
                  refine lv_icmp_eq (tgt := 115) hx hb dX4_held_108 (by decide) (fun c_53 => ?_) (fun c_53 => ?_)
                  · refine lv_iconst (v := 0) hx hb dX4_held_115 (by decide) ?_
                    refine lv_istore (lv' := [(5, .int 0), (0, .ref (mH M)), (2, .int (sPl S pj)), (3, .int (nI ((hldF S (sPl S pj) t) + 1))), (4, .int (nI t)), (6, .int (nI u))]) hx hb dX4_held_116 hl (by decide) rfl (fun ls hl => ?_)
                    refine lv_iinc (v := nI (u + 1)) (lv' := [(6, .int (nI (u + 1))), (5, .int 0), (0, .ref (mH M)), (2, .int (sPl S pj)), (3, .int (nI ((hldF S (sPl S pj) t) + 1))), (4, .int (nI t))]) hx hb dX4_held_118 hl (k := 5) rfl (nI_1 _) (by decide) rfl (fun ls hl => ?_)
                    refine lv_goto (tgt := 82) hx hb dX4_held_121 (by decide) ?_
                    have hq1 : u + 1 ≤ t ∧ (false = true → (vR S (sPl S t) ∧ kdv S (sPl S t) = 2) ∧ ∀ x9, x9 < u + 1 → ¬ sPl S x9 = sPl S t) ∧ ((vR S (sPl S t) ∧ kdv S (sPl S t) = 2) ∧ (∀ x9, x9 < u + 1 → ¬ sPl S x9 = sPl S t) → false = true) := ⟨by omega, fun e9 => Bool.noConfusion e9, fun q9 => absurd c_53 (q9.2 u (by omega))⟩
                    exact ih2 (u + 1, false) _ _ _ ⟨hq1, hI, hS, lv_sub hl [2, 3, 4, 5, 1, 0] rfl⟩ (by show t - (u + 1) < t - u; omega)
                  · refine lv_iconst (v := 1) hx hb dX4_held_111 (by decide) ?_
                    refine lv_goto (tgt := 116) hx hb dX4_held_112 (by decide) ?_
                    refine lv_istore (lv' := [(5, .int 1), (0, .ref (mH M)), (2, .int (sPl S pj)), (3, .int (nI ((hldF S (sPl S pj) t) + 1))), (4, .int (nI t)), (6, .int (nI u))]) hx hb dX4_held_116 hl (by decide) rfl (fun ls hl => ?_)
                    refine lv_iinc (v := nI (u + 1)) (lv' := [(6, .int (nI (u + 1))), (5, .int 1), (0, .ref (mH M)), (2, .int (sPl S pj)), (3, .int (nI ((hldF S (sPl S pj) t) + 1))), (4, .int (nI t))]) hx hb dX4_held_118 hl (k := 5) rfl (nI_1 _) (by decide) rfl (fun ls hl => ?_)
                    refine lv_goto (tgt := 82) hx hb dX4_held_121 (by decide) ?_
                    have hq1 : u + 1 ≤ t ∧ (true = true → (vR S (sPl S t) ∧ kdv S (sPl S t) = 2) ∧ ∀ x9, x9 < u + 1 → ¬ sPl S x9 = sPl S t) ∧ ((vR S (sPl S t) ∧ kdv S (sPl S t) = 2) ∧ (∀ x9, x9 < u + 1 → ¬ sPl S x9 = sPl S t) → true = true) := ⟨by omega, fun _ => ⟨(hb1 rfl).1, fun x9 h9 => by rcases Nat.lt_or_ge x9 u with q | q; exact (hb1 rfl).2 x9 q; rw [show x9 = u by omega]; exact c_53⟩, fun _ => rfl⟩
                    exact ih2 (u + 1, true) _ _ _ ⟨hq1, hI, hS, lv_sub hl [2, 3, 4, 5, 1, 0] rfl⟩ (by show t - (u + 1) < t - u; omega)
            · refine lv_iconst (v := 1) hx hb dX4_held_72 (by decide) ?_
              refine lv_goto (tgt := 77) hx hb dX4_held_73 (by decide) ?_
              refine lv_istore (lv' := [(5, .int 1), (3, .int (nI ((hldF S (sPl S pj) t) + 1))), (0, .ref (mH M)), (2, .int (sPl S pj)), (4, .int (nI t))]) hx hb dX4_held_77 hl (by decide) rfl (fun ls hl => ?_)
              refine lv_iconst (v := 0) hx hb dX4_held_79 (by decide) ?_
              refine lv_istore (lv' := [(6, .int 0), (5, .int 1), (3, .int (nI ((hldF S (sPl S pj) t) + 1))), (0, .ref (mH M)), (2, .int (sPl S pj)), (4, .int (nI t))]) hx hb dX4_held_80 hl (by decide) rfl (fun ls hl => ?_)
              have hn0 : vR S (sPl S t) ∧ kdv S (sPl S t) = 2 := ⟨hr_41, c_44⟩
              have hq0 : 0 ≤ t ∧ (true = true → (vR S (sPl S t) ∧ kdv S (sPl S t) = 2) ∧ ∀ x9, x9 < 0 → ¬ sPl S x9 = sPl S t) ∧ ((vR S (sPl S t) ∧ kdv S (sPl S t) = 2) ∧ (∀ x9, x9 < 0 → ¬ sPl S x9 = sPl S t) → true = true) := ⟨Nat.zero_le _, fun _ => ⟨hn0, fun q9 h9 => absurd h9 (Nat.not_lt_zero _)⟩, fun _ => rfl⟩
              refine lp_w (ι := Nat × Bool) (fun q9 => t - q9.1) (fun q9 H locs ls => (q9.1 ≤ t ∧ (q9.2 = true → (vR S (sPl S t) ∧ kdv S (sPl S t) = 2) ∧ ∀ x9, x9 < q9.1 → ¬ sPl S x9 = sPl S t) ∧ ((vR S (sPl S t) ∧ kdv S (sPl S t) = 2) ∧ (∀ x9, x9 < q9.1 → ¬ sPl S x9 = sPl S t) → q9.2 = true)) ∧ Hv E A w H ∧ va_S A s.heap H locs ∧ lv_has ls 7 [(0, .ref (mH M)), (2, .int (sPl S pj)), (3, .int (nI ((hldF S (sPl S pj) t) + 1))), (4, .int (nI t)), (5, .int (if q9.2 then 1 else 0)), (6, .int (nI q9.1))]) ?_ (0, true) _ _ _ ⟨hq0, hI, hS, lv_sub hl [3, 4, 2, 5, 1, 0] rfl⟩
              rintro ⟨u, b9⟩ H locs ls ⟨⟨hu, hb1, hb2⟩, hI, hS, hl⟩ ih2
              dsimp only at hu hb1 hb2 hl
              cases b9 with
              | false =>
                have hl : lv_has ls 7 [(0, .ref (mH M)), (2, .int (sPl S pj)), (3, .int (nI ((hldF S (sPl S pj) t) + 1))), (4, .int (nI t)), (5, .int 0), (6, .int (nI u))] := hl
                refine lv_iload hx hb dX4_held_82 (lv_at hl 5 rfl) ?_
                refine lv_iload hx hb dX4_held_84 (lv_at hl 3 rfl) ?_
                refine lv_icmp_ge (tgt := 124) hx hb dX4_held_86 (by decide) (fun c_54 => ?_) (fun c_54 => ?_)
                · have c_54 : t ≤ u := (nI_leI (a := t) (b := u) (by omega) (by omega)).mp c_54
                  refine lv_iconst (v := 0) hx hb dX4_held_124 (by decide) ?_
                  refine lv_istore (lv' := [(6, .int 0), (0, .ref (mH M)), (2, .int (sPl S pj)), (3, .int (nI ((hldF S (sPl S pj) t) + 1))), (4, .int (nI t)), (5, .int 0)]) hx hb dX4_held_125 hl (by decide) rfl (fun ls hl => ?_)
                  have hnw9 : ¬ (¬ sPl S t = -1 ∧ kdv S (sPl S t) = 2 ∧ frs S t) := fun q9 => by
                    have h9 := hb2 ⟨⟨vO_row ((hW.1 t).resolve_left q9.1) (by rw [q9.2.1]; decide), q9.2.1⟩, fun x9 h9 => q9.2.2 x9 (by omega)⟩
                    cases h9
                  refine lv_iload hx hb dX4_held_127 (lv_at hl 5 rfl) ?_
                  refine lv_if_eq (tgt := 174) hx hb dX4_held_129 (by decide) (fun _ => ?_) (fun c => absurd c (by decide))
                  refine lv_iinc (v := nI (t + 1)) (lv' := [(4, .int (nI (t + 1))), (6, .int 0), (0, .ref (mH M)), (2, .int (sPl S pj)), (3, .int (nI ((hldF S (sPl S pj) t) + 1))), (5, .int 0)]) hx hb dX4_held_174 hl (k := 4) rfl (nI_1 _) (by decide) rfl (fun ls hl => ?_)
                  refine lv_goto (tgt := 22) hx hb dX4_held_177 (by decide) ?_
                  have hst : hldF S (sPl S pj) (t + 1) = (hldF S (sPl S pj) t) + 1 := by simp only [hldF]; rw [if_pos c_5, if_neg hnw9]; try rfl
                  exact ih (t + 1) _ _ _ ⟨by omega, hI, hS, lv_sub hl [2, 3, 4, 0] (by rw [hst]; rfl)⟩ (by omega)
                · have c_54 : ¬ t ≤ u := fun q => c_54 ((nI_leI (a := t) (b := u) (by omega) (by omega)).mpr q)
                  refine lv_iload hx hb dX4_held_89 (lv_at hl 4 rfl) ?_
                  refine lv_if_eq (tgt := 115) hx hb dX4_held_91 (by decide) (fun _ => ?_) (fun c => absurd c (by decide))
                  refine lv_iconst (v := 0) hx hb dX4_held_115 (by decide) ?_
                  refine lv_istore (lv' := [(5, .int 0), (0, .ref (mH M)), (2, .int (sPl S pj)), (3, .int (nI ((hldF S (sPl S pj) t) + 1))), (4, .int (nI t)), (6, .int (nI u))]) hx hb dX4_held_116 hl (by decide) rfl (fun ls hl => ?_)
                  refine lv_iinc (v := nI (u + 1)) (lv' := [(6, .int (nI (u + 1))), (5, .int 0), (0, .ref (mH M)), (2, .int (sPl S pj)), (3, .int (nI ((hldF S (sPl S pj) t) + 1))), (4, .int (nI t))]) hx hb dX4_held_118 hl (k := 5) rfl (nI_1 _) (by decide) rfl (fun ls hl => ?_)
                  refine lv_goto (tgt := 82) hx hb dX4_held_121 (by decide) ?_
                  have hq1 : u + 1 ≤ t ∧ (false = true → (vR S (sPl S t) ∧ kdv S (sPl S t) = 2) ∧ ∀ x9, x9 < u + 1 → ¬ sPl S x9 = sPl S t) ∧ ((vR S (sPl S t) ∧ kdv S (sPl S t) = 2) ∧ (∀ x9, x9 < u + 1 → ¬ sPl S x9 = sPl S t) → false = true) := ⟨by omega, fun e9 => Bool.noConfusion e9, fun q9 => hb2 ⟨q9.1, fun x9 h9 => q9.2 x9 (by omega)⟩⟩
                  exact ih2 (u + 1, false) _ _ _ ⟨hq1, hI, hS, lv_sub hl [2, 3, 4, 5, 1, 0] rfl⟩ (by show t - (u + 1) < t - u; omega)
              | true =>
                have hl : lv_has ls 7 [(0, .ref (mH M)), (2, .int (sPl S pj)), (3, .int (nI ((hldF S (sPl S pj) t) + 1))), (4, .int (nI t)), (5, .int 1), (6, .int (nI u))] := hl
                refine lv_iload hx hb dX4_held_82 (lv_at hl 5 rfl) ?_
                refine lv_iload hx hb dX4_held_84 (lv_at hl 3 rfl) ?_
                refine lv_icmp_ge (tgt := 124) hx hb dX4_held_86 (by decide) (fun c_55 => ?_) (fun c_55 => ?_)
                · have c_55 : t ≤ u := (nI_leI (a := t) (b := u) (by omega) (by omega)).mp c_55
                  refine lv_iconst (v := 0) hx hb dX4_held_124 (by decide) ?_
                  refine lv_istore (lv' := [(6, .int 0), (0, .ref (mH M)), (2, .int (sPl S pj)), (3, .int (nI ((hldF S (sPl S pj) t) + 1))), (4, .int (nI t)), (5, .int 1)]) hx hb dX4_held_125 hl (by decide) rfl (fun ls hl => ?_)
                  have hnw9 : ¬ sPl S t = -1 ∧ kdv S (sPl S t) = 2 ∧ frs S t := ⟨fun e9 => (hb1 rfl).1.1.1 (by rw [e9]; decide), (hb1 rfl).1.2, fun x9 h9 => (hb1 rfl).2 x9 (by omega)⟩
                  have hrt : vR S (sPl S t) := (hb1 rfl).1.1
                  have hlt := hW.ln (Or.inl hrt)
                  clear hu hb1 hb2
                  refine lp_w (ι := Nat) (fun u => lnv S (sPl S t) - u) (fun u H locs ls => (u ≤ lnv S (sPl S t)) ∧ Hv E A w H ∧ va_S A s.heap H locs ∧ lv_has ls 7 [(0, .ref (mH M)), (2, .int (sPl S pj)), (3, .int (nI (((hldF S (sPl S pj) t) + 1) + cntI (itv S (sPl S t)) (sPl S pj) u))), (4, .int (nI t)), (5, .int 1), (6, .int (nI u))]) ?_ 0 _ _ _ ⟨Nat.zero_le _, hI, hS, lv_sub hl [1, 2, 3, 4, 5, 0] rfl⟩
                  intro u H locs ls hq ih3
                  obtain ⟨hu, hI, hS, hl⟩ := hq
                  refine lv_iload hx hb dX4_held_127 (lv_at hl 4 rfl) ?_
                  refine lv_if_eq (tgt := 174) hx hb dX4_held_129 (by decide) (fun c => absurd c (by decide)) (fun _ => ?_)
                  refine lv_iload hx hb dX4_held_132 (lv_at hl 5 rfl) ?_
                  refine lv_aload_n hx hb dX4_held_134 rfl (lv_at hl 0 rfl) ?_
                  refine lv_iload hx hb dX4_held_135 (lv_at hl 3 rfl) ?_
                  refine ca_V (As := [.int (nI t)]) (rest := [.int (nI u)]) (r0 := (RX4, TX4, 11)) (ci := 3) ⟨hx, hb, hml, hown, hts⟩ (cc_X4_lengthOf l E A _ (by omega) hW hR hrt) (cwV 1 hts gX4_held_X4_lengthOf rfl rfl rfl (by decide +kernel) ⟨(Nat.le_of_ble_eq_true rfl), (Nat.le_of_ble_eq_true rfl)⟩) hT hI hA hS rfl hR.1 rfl rfl hl.1 (Nat.le_of_ble_eq_true rfl) dX4_held_137 ⟨(Nat.le_of_ble_eq_true rfl), (Nat.le_of_ble_eq_true rfl)⟩ (fun r w_57 H locs hp_56 hI hS => ?_)
                  obtain ⟨rfl, rfl⟩ := hp_56
                  refine W.eq (g2 := F0 m 140 ls [.int (nI (lnv S (sPl S t))), .int (nI u)]) rfl ?_
                  refine lv_icmp_ge (tgt := 174) hx hb dX4_held_140 (by decide) (fun c_58 => ?_) (fun c_58 => ?_)
                  · have c_58 : lnv S (sPl S t) ≤ u := (nI_leI (a := lnv S (sPl S t)) (b := u) (by omega) (by omega)).mp c_58
                    refine lv_iinc (v := nI (t + 1)) (lv' := [(4, .int (nI (t + 1))), (0, .ref (mH M)), (2, .int (sPl S pj)), (3, .int (nI (((hldF S (sPl S pj) t) + 1) + cntI (itv S (sPl S t)) (sPl S pj) u))), (5, .int 1), (6, .int (nI u))]) hx hb dX4_held_174 hl (k := 3) rfl (nI_1 _) (by decide) rfl (fun ls hl => ?_)
                    refine lv_goto (tgt := 22) hx hb dX4_held_177 (by decide) ?_
                    have hst : hldF S (sPl S pj) (t + 1) = ((hldF S (sPl S pj) t) + 1) + cntI (itv S (sPl S t)) (sPl S pj) u := by simp only [hldF]; rw [if_pos c_5, if_pos hnw9, show u = lnv S (sPl S t) by omega]
                    exact ih (t + 1) _ _ _ ⟨by omega, hI, hS, lv_sub hl [1, 2, 3, 0] (by rw [hst]; rfl)⟩ (by omega)
                  · have c_58 : ¬ lnv S (sPl S t) ≤ u := fun q => c_58 ((nI_leI (a := lnv S (sPl S t)) (b := u) (by omega) (by omega)).mpr q)
                    refine lv_iload_n hx hb dX4_held_143 rfl (lv_at hl 2 rfl) ?_
                    refine lv_aload_n hx hb dX4_held_144 rfl (lv_at hl 0 rfl) ?_
                    refine lv_aload_n hx hb dX4_held_145 rfl (lv_at hl 0 rfl) ?_
                    refine wr_get (ci := 3) (C := RX4) (T := TX4) (N := 11) (v := .ref (mP M)) hx hb hts in_X4 hown hT hI hR.1 rfl 1 (by decide) (hts (.fieldLink RX4 7 "CopyRowsModel" "places" "[I") (by decide +kernel)) rfl dX4_held_146 ?_
                    refine lv_iload hx hb dX4_held_149 (lv_at hl 3 rfl) ?_
                    refine wr_ialdN (t := t) (n := 12) (f := plF S) hx hb hT hI hR.2.1 (by omega) (by omega) dX4_held_151 ?_
                    refine W.eq (g2 := F0 m 152 ls [.int (sPl S t), .ref (mH M), .int (nI (((hldF S (sPl S pj) t) + 1) + cntI (itv S (sPl S t)) (sPl S pj) u))]) (by rw [plF_at (by omega)]) ?_
                    refine lv_iload hx hb dX4_held_152 (lv_at hl 5 rfl) ?_
                    refine ca_V (As := [.int (sPl S t), .int (nI u)]) (rest := [.int (nI (((hldF S (sPl S pj) t) + 1) + cntI (itv S (sPl S t)) (sPl S pj) u))]) (r0 := (RX4, TX4, 11)) (ci := 3) ⟨hx, hb, hml, hown, hts⟩ (cM_get l E A _ hrt (by have := hW.2.2.2; omega) (by omega) hR) (cwV 2 hts gX4_held_X4_get rfl rfl rfl (by decide +kernel) ⟨(Nat.le_of_ble_eq_true rfl), (Nat.le_of_ble_eq_true rfl)⟩) hT hI hA hS rfl hR.1 rfl rfl hl.1 (Nat.le_of_ble_eq_true rfl) dX4_held_154 ⟨(Nat.le_of_ble_eq_true rfl), (Nat.le_of_ble_eq_true rfl)⟩ (fun r w_60 H locs hp_59 hI hS => ?_)
                    obtain ⟨rfl, rfl⟩ := hp_59
                    refine W.eq (g2 := F0 m 157 ls [.int (itv S (sPl S t) u), .int (nI (((hldF S (sPl S pj) t) + 1) + cntI (itv S (sPl S t)) (sPl S pj) u))]) rfl ?_
                    refine lv_iload_n hx hb dX4_held_157 rfl (lv_at hl 1 rfl) ?_
                    refine lv_icmp_ne (tgt := 165) hx hb dX4_held_158 (by decide) (fun c_61 => ?_) (fun c_61 => ?_)
                    · refine lv_iconst (v := 0) hx hb dX4_held_165 (by decide) ?_
                      refine lv_iadd hx hb dX4_held_166 ?_
                      refine W.eq (g2 := F0 m 167 ls [.int (nI ((((hldF S (sPl S pj) t) + 1) + cntI (itv S (sPl S t)) (sPl S pj) u) + 0))]) (by rw [show (nI (((hldF S (sPl S pj) t) + 1) + cntI (itv S (sPl S t)) (sPl S pj) u) : Int32) + 0 = nI ((((hldF S (sPl S pj) t) + 1) + cntI (itv S (sPl S t)) (sPl S pj) u) + 0) from nI_add (((hldF S (sPl S pj) t) + 1) + cntI (itv S (sPl S t)) (sPl S pj) u) 0]) ?_
                      refine lv_istore_n (lv' := [(3, .int (nI ((((hldF S (sPl S pj) t) + 1) + cntI (itv S (sPl S t)) (sPl S pj) u) + 0))), (0, .ref (mH M)), (2, .int (sPl S pj)), (4, .int (nI t)), (5, .int 1), (6, .int (nI u))]) hx hb dX4_held_167 rfl hl (by decide) rfl (fun ls hl => ?_)
                      refine lv_iinc (v := nI (u + 1)) (lv' := [(6, .int (nI (u + 1))), (3, .int (nI ((((hldF S (sPl S pj) t) + 1) + cntI (itv S (sPl S t)) (sPl S pj) u) + 0))), (0, .ref (mH M)), (2, .int (sPl S pj)), (4, .int (nI t)), (5, .int 1)]) hx hb dX4_held_168 hl (k := 5) rfl (nI_1 _) (by decide) rfl (fun ls hl => ?_)
                      refine lv_goto (tgt := 127) hx hb dX4_held_171 (by decide) ?_
                      exact ih3 (u + 1) _ _ _ ⟨by omega, hI, hS, lv_sub hl [2, 3, 1, 4, 5, 0] (by simp [lv_pick, cntI, c_61, Nat.add_assoc])⟩ (by omega)
                    · refine lv_iconst (v := 1) hx hb dX4_held_161 (by decide) ?_
                      refine lv_goto (tgt := 166) hx hb dX4_held_162 (by decide) ?_
                      refine lv_iadd hx hb dX4_held_166 ?_
                      refine W.eq (g2 := F0 m 167 ls [.int (nI ((((hldF S (sPl S pj) t) + 1) + cntI (itv S (sPl S t)) (sPl S pj) u) + 1))]) (by rw [show (nI (((hldF S (sPl S pj) t) + 1) + cntI (itv S (sPl S t)) (sPl S pj) u) : Int32) + 1 = nI ((((hldF S (sPl S pj) t) + 1) + cntI (itv S (sPl S t)) (sPl S pj) u) + 1) from nI_add (((hldF S (sPl S pj) t) + 1) + cntI (itv S (sPl S t)) (sPl S pj) u) 1]) ?_
                      refine lv_istore_n (lv' := [(3, .int (nI ((((hldF S (sPl S pj) t) + 1) + cntI (itv S (sPl S t)) (sPl S pj) u) + 1))), (0, .ref (mH M)), (2, .int (sPl S pj)), (4, .int (nI t)), (5, .int 1), (6, .int (nI u))]) hx hb dX4_held_167 rfl hl (by decide) rfl (fun ls hl => ?_)
                      refine lv_iinc (v := nI (u + 1)) (lv' := [(6, .int (nI (u + 1))), (3, .int (nI ((((hldF S (sPl S pj) t) + 1) + cntI (itv S (sPl S t)) (sPl S pj) u) + 1))), (0, .ref (mH M)), (2, .int (sPl S pj)), (4, .int (nI t)), (5, .int 1)]) hx hb dX4_held_168 hl (k := 5) rfl (nI_1 _) (by decide) rfl (fun ls hl => ?_)
                      refine lv_goto (tgt := 127) hx hb dX4_held_171 (by decide) ?_
                      exact ih3 (u + 1) _ _ _ ⟨by omega, hI, hS, lv_sub hl [2, 3, 1, 4, 5, 0] (by simp [lv_pick, cntI, c_61, Nat.add_assoc])⟩ (by omega)
                · have c_55 : ¬ t ≤ u := fun q => c_55 ((nI_leI (a := t) (b := u) (by omega) (by omega)).mpr q)
                  refine lv_iload hx hb dX4_held_89 (lv_at hl 4 rfl) ?_
                  refine lv_if_eq (tgt := 115) hx hb dX4_held_91 (by decide) (fun c => absurd c (by decide)) (fun _ => ?_)
                  refine lv_aload_n hx hb dX4_held_94 rfl (lv_at hl 0 rfl) ?_
                  refine wr_get (ci := 3) (C := RX4) (T := TX4) (N := 11) (v := .ref (mP M)) hx hb hts in_X4 hown hT hI hR.1 rfl 1 (by decide) (hts (.fieldLink RX4 7 "CopyRowsModel" "places" "[I") (by decide +kernel)) rfl dX4_held_95 ?_
                  refine lv_iload hx hb dX4_held_98 (lv_at hl 5 rfl) ?_
                  refine wr_ialdN (t := u) (n := 12) (f := plF S) hx hb hT hI hR.2.1 (by omega) (by omega) dX4_held_100 ?_
                  refine W.eq (g2 := F0 m 101 ls [.int (sPl S u)]) (by rw [plF_at (by omega)]) ?_
                  refine lv_aload_n hx hb dX4_held_101 rfl (lv_at hl 0 rfl) ?_
                  refine wr_get (ci := 3) (C := RX4) (T := TX4) (N := 11) (v := .ref (mP M)) hx hb hts in_X4 hown hT hI hR.1 rfl 1 (by decide) (hts (.fieldLink RX4 7 "CopyRowsModel" "places" "[I") (by decide +kernel)) rfl dX4_held_102 ?_
                  refine lv_iload hx hb dX4_held_105 (lv_at hl 3 rfl) ?_
                  refine wr_ialdN (t := t) (n := 12) (f := plF S) hx hb hT hI hR.2.1 (by omega) (by omega) dX4_held_107 ?_
                  refine W.eq (g2 := F0 m 108 ls [.int (sPl S t), .int (sPl S u)]) (by rw [plF_at (by omega)]) ?_
                  refine lv_icmp_eq (tgt := 115) hx hb dX4_held_108 (by decide) (fun c_62 => ?_) (fun c_62 => ?_)
                  · refine lv_iconst (v := 0) hx hb dX4_held_115 (by decide) ?_
                    refine lv_istore (lv' := [(5, .int 0), (0, .ref (mH M)), (2, .int (sPl S pj)), (3, .int (nI ((hldF S (sPl S pj) t) + 1))), (4, .int (nI t)), (6, .int (nI u))]) hx hb dX4_held_116 hl (by decide) rfl (fun ls hl => ?_)
                    refine lv_iinc (v := nI (u + 1)) (lv' := [(6, .int (nI (u + 1))), (5, .int 0), (0, .ref (mH M)), (2, .int (sPl S pj)), (3, .int (nI ((hldF S (sPl S pj) t) + 1))), (4, .int (nI t))]) hx hb dX4_held_118 hl (k := 5) rfl (nI_1 _) (by decide) rfl (fun ls hl => ?_)
                    refine lv_goto (tgt := 82) hx hb dX4_held_121 (by decide) ?_
                    have hq1 : u + 1 ≤ t ∧ (false = true → (vR S (sPl S t) ∧ kdv S (sPl S t) = 2) ∧ ∀ x9, x9 < u + 1 → ¬ sPl S x9 = sPl S t) ∧ ((vR S (sPl S t) ∧ kdv S (sPl S t) = 2) ∧ (∀ x9, x9 < u + 1 → ¬ sPl S x9 = sPl S t) → false = true) := ⟨by omega, fun e9 => Bool.noConfusion e9, fun q9 => absurd c_62 (q9.2 u (by omega))⟩
                    exact ih2 (u + 1, false) _ _ _ ⟨hq1, hI, hS, lv_sub hl [2, 3, 4, 5, 1, 0] rfl⟩ (by show t - (u + 1) < t - u; omega)
                  · refine lv_iconst (v := 1) hx hb dX4_held_111 (by decide) ?_
                    refine lv_goto (tgt := 116) hx hb dX4_held_112 (by decide) ?_
                    refine lv_istore (lv' := [(5, .int 1), (0, .ref (mH M)), (2, .int (sPl S pj)), (3, .int (nI ((hldF S (sPl S pj) t) + 1))), (4, .int (nI t)), (6, .int (nI u))]) hx hb dX4_held_116 hl (by decide) rfl (fun ls hl => ?_)
                    refine lv_iinc (v := nI (u + 1)) (lv' := [(6, .int (nI (u + 1))), (5, .int 1), (0, .ref (mH M)), (2, .int (sPl S pj)), (3, .int (nI ((hldF S (sPl S pj) t) + 1))), (4, .int (nI t))]) hx hb dX4_held_118 hl (k := 5) rfl (nI_1 _) (by decide) rfl (fun ls hl => ?_)
                    refine lv_goto (tgt := 82) hx hb dX4_held_121 (by decide) ?_
                    have hq1 : u + 1 ≤ t ∧ (true = true → (vR S (sPl S t) ∧ kdv S (sPl S t) = 2) ∧ ∀ x9, x9 < u + 1 → ¬ sPl S x9 = sPl S t) ∧ ((vR S (sPl S t) ∧ kdv S (sPl S t) = 2) ∧ (∀ x9, x9 < u + 1 → ¬ sPl S x9 = sPl S t) → true = true) := ⟨by omega, fun _ => ⟨(hb1 rfl).1, fun x9 h9 => by rcases Nat.lt_or_ge x9 u with q | q; exact (hb1 rfl).2 x9 q; rw [show x9 = u by omega]; exact c_62⟩, fun _ => rfl⟩
                    exact ih2 (u + 1, true) _ _ _ ⟨hq1, hI, hS, lv_sub hl [2, 3, 4, 5, 1, 0] rfl⟩ (by show t - (u + 1) < t - u; omega)
          · refine W.eq (g2 := F0 m 59 ls [.int 0]) rfl ?_
            refine lv_if_eq (tgt := 76) hx hb dX4_held_59 (by decide) (fun _ => ?_) (fun c => absurd c (by decide))
            refine lv_iconst (v := 0) hx hb dX4_held_76 (by decide) ?_
            refine lv_istore (lv' := [(5, .int 0), (3, .int (nI ((hldF S (sPl S pj) t) + 1))), (0, .ref (mH M)), (2, .int (sPl S pj)), (4, .int (nI t))]) hx hb dX4_held_77 hl (by decide) rfl (fun ls hl => ?_)
            refine lv_iconst (v := 0) hx hb dX4_held_79 (by decide) ?_
            refine lv_istore (lv' := [(6, .int 0), (5, .int 0), (3, .int (nI ((hldF S (sPl S pj) t) + 1))), (0, .ref (mH M)), (2, .int (sPl S pj)), (4, .int (nI t))]) hx hb dX4_held_80 hl (by decide) rfl (fun ls hl => ?_)
            have hn0 : ¬ (vR S (sPl S t) ∧ kdv S (sPl S t) = 2) := fun q9 => hr_41 q9.1
            have hq0 : 0 ≤ t ∧ (false = true → (vR S (sPl S t) ∧ kdv S (sPl S t) = 2) ∧ ∀ x9, x9 < 0 → ¬ sPl S x9 = sPl S t) ∧ ((vR S (sPl S t) ∧ kdv S (sPl S t) = 2) ∧ (∀ x9, x9 < 0 → ¬ sPl S x9 = sPl S t) → false = true) := ⟨Nat.zero_le _, fun e9 => Bool.noConfusion e9, fun q9 => absurd q9.1 hn0⟩
            refine lp_w (ι := Nat × Bool) (fun q9 => t - q9.1) (fun q9 H locs ls => (q9.1 ≤ t ∧ (q9.2 = true → (vR S (sPl S t) ∧ kdv S (sPl S t) = 2) ∧ ∀ x9, x9 < q9.1 → ¬ sPl S x9 = sPl S t) ∧ ((vR S (sPl S t) ∧ kdv S (sPl S t) = 2) ∧ (∀ x9, x9 < q9.1 → ¬ sPl S x9 = sPl S t) → q9.2 = true)) ∧ Hv E A w H ∧ va_S A s.heap H locs ∧ lv_has ls 7 [(0, .ref (mH M)), (2, .int (sPl S pj)), (3, .int (nI ((hldF S (sPl S pj) t) + 1))), (4, .int (nI t)), (5, .int (if q9.2 then 1 else 0)), (6, .int (nI q9.1))]) ?_ (0, false) _ _ _ ⟨hq0, hI, hS, lv_sub hl [3, 4, 2, 5, 1, 0] rfl⟩
            rintro ⟨u, b9⟩ H locs ls ⟨⟨hu, hb1, hb2⟩, hI, hS, hl⟩ ih2
            dsimp only at hu hb1 hb2 hl
            cases b9 with
            | false =>
              have hl : lv_has ls 7 [(0, .ref (mH M)), (2, .int (sPl S pj)), (3, .int (nI ((hldF S (sPl S pj) t) + 1))), (4, .int (nI t)), (5, .int 0), (6, .int (nI u))] := hl
              refine lv_iload hx hb dX4_held_82 (lv_at hl 5 rfl) ?_
              refine lv_iload hx hb dX4_held_84 (lv_at hl 3 rfl) ?_
              refine lv_icmp_ge (tgt := 124) hx hb dX4_held_86 (by decide) (fun c_63 => ?_) (fun c_63 => ?_)
              · have c_63 : t ≤ u := (nI_leI (a := t) (b := u) (by omega) (by omega)).mp c_63
                refine lv_iconst (v := 0) hx hb dX4_held_124 (by decide) ?_
                refine lv_istore (lv' := [(6, .int 0), (0, .ref (mH M)), (2, .int (sPl S pj)), (3, .int (nI ((hldF S (sPl S pj) t) + 1))), (4, .int (nI t)), (5, .int 0)]) hx hb dX4_held_125 hl (by decide) rfl (fun ls hl => ?_)
                have hnw9 : ¬ (¬ sPl S t = -1 ∧ kdv S (sPl S t) = 2 ∧ frs S t) := fun q9 => by
                  have h9 := hb2 ⟨⟨vO_row ((hW.1 t).resolve_left q9.1) (by rw [q9.2.1]; decide), q9.2.1⟩, fun x9 h9 => q9.2.2 x9 (by omega)⟩
                  cases h9
                refine lv_iload hx hb dX4_held_127 (lv_at hl 5 rfl) ?_
                refine lv_if_eq (tgt := 174) hx hb dX4_held_129 (by decide) (fun _ => ?_) (fun c => absurd c (by decide))
                refine lv_iinc (v := nI (t + 1)) (lv' := [(4, .int (nI (t + 1))), (6, .int 0), (0, .ref (mH M)), (2, .int (sPl S pj)), (3, .int (nI ((hldF S (sPl S pj) t) + 1))), (5, .int 0)]) hx hb dX4_held_174 hl (k := 4) rfl (nI_1 _) (by decide) rfl (fun ls hl => ?_)
                refine lv_goto (tgt := 22) hx hb dX4_held_177 (by decide) ?_
                have hst : hldF S (sPl S pj) (t + 1) = (hldF S (sPl S pj) t) + 1 := by simp only [hldF]; rw [if_pos c_5, if_neg hnw9]; try rfl
                exact ih (t + 1) _ _ _ ⟨by omega, hI, hS, lv_sub hl [2, 3, 4, 0] (by rw [hst]; rfl)⟩ (by omega)
              · have c_63 : ¬ t ≤ u := fun q => c_63 ((nI_leI (a := t) (b := u) (by omega) (by omega)).mpr q)
                refine lv_iload hx hb dX4_held_89 (lv_at hl 4 rfl) ?_
                refine lv_if_eq (tgt := 115) hx hb dX4_held_91 (by decide) (fun _ => ?_) (fun c => absurd c (by decide))
                refine lv_iconst (v := 0) hx hb dX4_held_115 (by decide) ?_
                refine lv_istore (lv' := [(5, .int 0), (0, .ref (mH M)), (2, .int (sPl S pj)), (3, .int (nI ((hldF S (sPl S pj) t) + 1))), (4, .int (nI t)), (6, .int (nI u))]) hx hb dX4_held_116 hl (by decide) rfl (fun ls hl => ?_)
                refine lv_iinc (v := nI (u + 1)) (lv' := [(6, .int (nI (u + 1))), (5, .int 0), (0, .ref (mH M)), (2, .int (sPl S pj)), (3, .int (nI ((hldF S (sPl S pj) t) + 1))), (4, .int (nI t))]) hx hb dX4_held_118 hl (k := 5) rfl (nI_1 _) (by decide) rfl (fun ls hl => ?_)
                refine lv_goto (tgt := 82) hx hb dX4_held_121 (by decide) ?_
                have hq1 : u + 1 ≤ t ∧ (false = true → (vR S (sPl S t) ∧ kdv S (sPl S t) = 2) ∧ ∀ x9, x9 < u + 1 → ¬ sPl S x9 = sPl S t) ∧ ((vR S (sPl S t) ∧ kdv S (sPl S t) = 2) ∧ (∀ x9, x9 < u + 1 → ¬ sPl S x9 = sPl S t) → false = true) := ⟨by omega, fun e9 => Bool.noConfusion e9, fun q9 => hb2 ⟨q9.1, fun x9 h9 => q9.2 x9 (by omega)⟩⟩
                exact ih2 (u + 1, false) _ _ _ ⟨hq1, hI, hS, lv_sub hl [2, 3, 4, 5, 1, 0] rfl⟩ (by show t - (u + 1) < t - u; omega)
            | true =>
              have hl : lv_has ls 7 [(0, .ref (mH M)), (2, .int (sPl S pj)), (3, .int (nI ((hldF S (sPl S pj) t) + 1))), (4, .int (nI t)), (5, .int 1), (6, .int (nI u))] := hl
              refine lv_iload hx hb dX4_held_82 (lv_at hl 5 rfl) ?_
              refine lv_iload hx hb dX4_held_84 (lv_at hl 3 rfl) ?_
              refine lv_icmp_ge (tgt := 124) hx hb dX4_held_86 (by decide) (fun c_64 => ?_) (fun c_64 => ?_)
              · have c_64 : t ≤ u := (nI_leI (a := t) (b := u) (by omega) (by omega)).mp c_64
                refine lv_iconst (v := 0) hx hb dX4_held_124 (by decide) ?_
                refine lv_istore (lv' := [(6, .int 0), (0, .ref (mH M)), (2, .int (sPl S pj)), (3, .int (nI ((hldF S (sPl S pj) t) + 1))), (4, .int (nI t)), (5, .int 1)]) hx hb dX4_held_125 hl (by decide) rfl (fun ls hl => ?_)
                have hnw9 : ¬ sPl S t = -1 ∧ kdv S (sPl S t) = 2 ∧ frs S t := ⟨fun e9 => (hb1 rfl).1.1.1 (by rw [e9]; decide), (hb1 rfl).1.2, fun x9 h9 => (hb1 rfl).2 x9 (by omega)⟩
                have hrt : vR S (sPl S t) := (hb1 rfl).1.1
                have hlt := hW.ln (Or.inl hrt)
                clear hu hb1 hb2
                refine lp_w (ι := Nat) (fun u => lnv S (sPl S t) - u) (fun u H locs ls => (u ≤ lnv S (sPl S t)) ∧ Hv E A w H ∧ va_S A s.heap H locs ∧ lv_has ls 7 [(0, .ref (mH M)), (2, .int (sPl S pj)), (3, .int (nI (((hldF S (sPl S pj) t) + 1) + cntI (itv S (sPl S t)) (sPl S pj) u))), (4, .int (nI t)), (5, .int 1), (6, .int (nI u))]) ?_ 0 _ _ _ ⟨Nat.zero_le _, hI, hS, lv_sub hl [1, 2, 3, 4, 5, 0] rfl⟩
                intro u H locs ls hq ih3
                obtain ⟨hu, hI, hS, hl⟩ := hq
                refine lv_iload hx hb dX4_held_127 (lv_at hl 4 rfl) ?_
                refine lv_if_eq (tgt := 174) hx hb dX4_held_129 (by decide) (fun c => absurd c (by decide)) (fun _ => ?_)
                refine lv_iload hx hb dX4_held_132 (lv_at hl 5 rfl) ?_
                refine lv_aload_n hx hb dX4_held_134 rfl (lv_at hl 0 rfl) ?_
                refine lv_iload hx hb dX4_held_135 (lv_at hl 3 rfl) ?_
                refine ca_V (As := [.int (nI t)]) (rest := [.int (nI u)]) (r0 := (RX4, TX4, 11)) (ci := 3) ⟨hx, hb, hml, hown, hts⟩ (cc_X4_lengthOf l E A _ (by omega) hW hR hrt) (cwV 1 hts gX4_held_X4_lengthOf rfl rfl rfl (by decide +kernel) ⟨(Nat.le_of_ble_eq_true rfl), (Nat.le_of_ble_eq_true rfl)⟩) hT hI hA hS rfl hR.1 rfl rfl hl.1 (Nat.le_of_ble_eq_true rfl) dX4_held_137 ⟨(Nat.le_of_ble_eq_true rfl), (Nat.le_of_ble_eq_true rfl)⟩ (fun r w_66 H locs hp_65 hI hS => ?_)
                obtain ⟨rfl, rfl⟩ := hp_65
                refine W.eq (g2 := F0 m 140 ls [.int (nI (lnv S (sPl S t))), .int (nI u)]) rfl ?_
                refine lv_icmp_ge (tgt := 174) hx hb dX4_held_140 (by decide) (fun c_67 => ?_) (fun c_67 => ?_)
                · have c_67 : lnv S (sPl S t) ≤ u := (nI_leI (a := lnv S (sPl S t)) (b := u) (by omega) (by omega)).mp c_67
                  refine lv_iinc (v := nI (t + 1)) (lv' := [(4, .int (nI (t + 1))), (0, .ref (mH M)), (2, .int (sPl S pj)), (3, .int (nI (((hldF S (sPl S pj) t) + 1) + cntI (itv S (sPl S t)) (sPl S pj) u))), (5, .int 1), (6, .int (nI u))]) hx hb dX4_held_174 hl (k := 3) rfl (nI_1 _) (by decide) rfl (fun ls hl => ?_)
                  refine lv_goto (tgt := 22) hx hb dX4_held_177 (by decide) ?_
                  have hst : hldF S (sPl S pj) (t + 1) = ((hldF S (sPl S pj) t) + 1) + cntI (itv S (sPl S t)) (sPl S pj) u := by simp only [hldF]; rw [if_pos c_5, if_pos hnw9, show u = lnv S (sPl S t) by omega]
                  exact ih (t + 1) _ _ _ ⟨by omega, hI, hS, lv_sub hl [1, 2, 3, 0] (by rw [hst]; rfl)⟩ (by omega)
                · have c_67 : ¬ lnv S (sPl S t) ≤ u := fun q => c_67 ((nI_leI (a := lnv S (sPl S t)) (b := u) (by omega) (by omega)).mpr q)
                  refine lv_iload_n hx hb dX4_held_143 rfl (lv_at hl 2 rfl) ?_
                  refine lv_aload_n hx hb dX4_held_144 rfl (lv_at hl 0 rfl) ?_
                  refine lv_aload_n hx hb dX4_held_145 rfl (lv_at hl 0 rfl) ?_
                  refine wr_get (ci := 3) (C := RX4) (T := TX4) (N := 11) (v := .ref (mP M)) hx hb hts in_X4 hown hT hI hR.1 rfl 1 (by decide) (hts (.fieldLink RX4 7 "CopyRowsModel" "places" "[I") (by decide +kernel)) rfl dX4_held_146 ?_
                  refine lv_iload hx hb dX4_held_149 (lv_at hl 3 rfl) ?_
                  refine wr_ialdN (t := t) (n := 12) (f := plF S) hx hb hT hI hR.2.1 (by omega) (by omega) dX4_held_151 ?_
                  refine W.eq (g2 := F0 m 152 ls [.int (sPl S t), .ref (mH M), .int (nI (((hldF S (sPl S pj) t) + 1) + cntI (itv S (sPl S t)) (sPl S pj) u))]) (by rw [plF_at (by omega)]) ?_
                  refine lv_iload hx hb dX4_held_152 (lv_at hl 5 rfl) ?_
                  refine ca_V (As := [.int (sPl S t), .int (nI u)]) (rest := [.int (nI (((hldF S (sPl S pj) t) + 1) + cntI (itv S (sPl S t)) (sPl S pj) u))]) (r0 := (RX4, TX4, 11)) (ci := 3) ⟨hx, hb, hml, hown, hts⟩ (cM_get l E A _ hrt (by have := hW.2.2.2; omega) (by omega) hR) (cwV 2 hts gX4_held_X4_get rfl rfl rfl (by decide +kernel) ⟨(Nat.le_of_ble_eq_true rfl), (Nat.le_of_ble_eq_true rfl)⟩) hT hI hA hS rfl hR.1 rfl rfl hl.1 (Nat.le_of_ble_eq_true rfl) dX4_held_154 ⟨(Nat.le_of_ble_eq_true rfl), (Nat.le_of_ble_eq_true rfl)⟩ (fun r w_69 H locs hp_68 hI hS => ?_)
                  obtain ⟨rfl, rfl⟩ := hp_68
                  refine W.eq (g2 := F0 m 157 ls [.int (itv S (sPl S t) u), .int (nI (((hldF S (sPl S pj) t) + 1) + cntI (itv S (sPl S t)) (sPl S pj) u))]) rfl ?_
                  refine lv_iload_n hx hb dX4_held_157 rfl (lv_at hl 1 rfl) ?_
                  refine lv_icmp_ne (tgt := 165) hx hb dX4_held_158 (by decide) (fun c_70 => ?_) (fun c_70 => ?_)
                  · refine lv_iconst (v := 0) hx hb dX4_held_165 (by decide) ?_
                    refine lv_iadd hx hb dX4_held_166 ?_
                    refine W.eq (g2 := F0 m 167 ls [.int (nI ((((hldF S (sPl S pj) t) + 1) + cntI (itv S (sPl S t)) (sPl S pj) u) + 0))]) (by rw [show (nI (((hldF S (sPl S pj) t) + 1) + cntI (itv S (sPl S t)) (sPl S pj) u) : Int32) + 0 = nI ((((hldF S (sPl S pj) t) + 1) + cntI (itv S (sPl S t)) (sPl S pj) u) + 0) from nI_add (((hldF S (sPl S pj) t) + 1) + cntI (itv S (sPl S t)) (sPl S pj) u) 0]) ?_
                    refine lv_istore_n (lv' := [(3, .int (nI ((((hldF S (sPl S pj) t) + 1) + cntI (itv S (sPl S t)) (sPl S pj) u) + 0))), (0, .ref (mH M)), (2, .int (sPl S pj)), (4, .int (nI t)), (5, .int 1), (6, .int (nI u))]) hx hb dX4_held_167 rfl hl (by decide) rfl (fun ls hl => ?_)
                    refine lv_iinc (v := nI (u + 1)) (lv' := [(6, .int (nI (u + 1))), (3, .int (nI ((((hldF S (sPl S pj) t) + 1) + cntI (itv S (sPl S t)) (sPl S pj) u) + 0))), (0, .ref (mH M)), (2, .int (sPl S pj)), (4, .int (nI t)), (5, .int 1)]) hx hb dX4_held_168 hl (k := 5) rfl (nI_1 _) (by decide) rfl (fun ls hl => ?_)
                    refine lv_goto (tgt := 127) hx hb dX4_held_171 (by decide) ?_
                    exact ih3 (u + 1) _ _ _ ⟨by omega, hI, hS, lv_sub hl [2, 3, 1, 4, 5, 0] (by simp [lv_pick, cntI, c_70, Nat.add_assoc])⟩ (by omega)
                  · refine lv_iconst (v := 1) hx hb dX4_held_161 (by decide) ?_
                    refine lv_goto (tgt := 166) hx hb dX4_held_162 (by decide) ?_
                    refine lv_iadd hx hb dX4_held_166 ?_
                    refine W.eq (g2 := F0 m 167 ls [.int (nI ((((hldF S (sPl S pj) t) + 1) + cntI (itv S (sPl S t)) (sPl S pj) u) + 1))]) (by rw [show (nI (((hldF S (sPl S pj) t) + 1) + cntI (itv S (sPl S t)) (sPl S pj) u) : Int32) + 1 = nI ((((hldF S (sPl S pj) t) + 1) + cntI (itv S (sPl S t)) (sPl S pj) u) + 1) from nI_add (((hldF S (sPl S pj) t) + 1) + cntI (itv S (sPl S t)) (sPl S pj) u) 1]) ?_
                    refine lv_istore_n (lv' := [(3, .int (nI ((((hldF S (sPl S pj) t) + 1) + cntI (itv S (sPl S t)) (sPl S pj) u) + 1))), (0, .ref (mH M)), (2, .int (sPl S pj)), (4, .int (nI t)), (5, .int 1), (6, .int (nI u))]) hx hb dX4_held_167 rfl hl (by decide) rfl (fun ls hl => ?_)
                    refine lv_iinc (v := nI (u + 1)) (lv' := [(6, .int (nI (u + 1))), (3, .int (nI ((((hldF S (sPl S pj) t) + 1) + cntI (itv S (sPl S t)) (sPl S pj) u) + 1))), (0, .ref (mH M)), (2, .int (sPl S pj)), (4, .int (nI t)), (5, .int 1)]) hx hb dX4_held_168 hl (k := 5) rfl (nI_1 _) (by decide) rfl (fun ls hl => ?_)
                    refine lv_goto (tgt := 127) hx hb dX4_held_171 (by decide) ?_
                    exact ih3 (u + 1) _ _ _ ⟨by omega, hI, hS, lv_sub hl [2, 3, 1, 4, 5, 0] (by simp [lv_pick, cntI, c_70, Nat.add_assoc])⟩ (by omega)
              · have c_64 : ¬ t ≤ u := fun q => c_64 ((nI_leI (a := t) (b := u) (by omega) (by omega)).mpr q)
                refine lv_iload hx hb dX4_held_89 (lv_at hl 4 rfl) ?_
                refine lv_if_eq (tgt := 115) hx hb dX4_held_91 (by decide) (fun c => absurd c (by decide)) (fun _ => ?_)
                refine lv_aload_n hx hb dX4_held_94 rfl (lv_at hl 0 rfl) ?_
                refine wr_get (ci := 3) (C := RX4) (T := TX4) (N := 11) (v := .ref (mP M)) hx hb hts in_X4 hown hT hI hR.1 rfl 1 (by decide) (hts (.fieldLink RX4 7 "CopyRowsModel" "places" "[I") (by decide +kernel)) rfl dX4_held_95 ?_
                refine lv_iload hx hb dX4_held_98 (lv_at hl 5 rfl) ?_
                refine wr_ialdN (t := u) (n := 12) (f := plF S) hx hb hT hI hR.2.1 (by omega) (by omega) dX4_held_100 ?_
                refine W.eq (g2 := F0 m 101 ls [.int (sPl S u)]) (by rw [plF_at (by omega)]) ?_
                refine lv_aload_n hx hb dX4_held_101 rfl (lv_at hl 0 rfl) ?_
                refine wr_get (ci := 3) (C := RX4) (T := TX4) (N := 11) (v := .ref (mP M)) hx hb hts in_X4 hown hT hI hR.1 rfl 1 (by decide) (hts (.fieldLink RX4 7 "CopyRowsModel" "places" "[I") (by decide +kernel)) rfl dX4_held_102 ?_
                refine lv_iload hx hb dX4_held_105 (lv_at hl 3 rfl) ?_
                refine wr_ialdN (t := t) (n := 12) (f := plF S) hx hb hT hI hR.2.1 (by omega) (by omega) dX4_held_107 ?_
                refine W.eq (g2 := F0 m 108 ls [.int (sPl S t), .int (sPl S u)]) (by rw [plF_at (by omega)]) ?_
                refine lv_icmp_eq (tgt := 115) hx hb dX4_held_108 (by decide) (fun c_71 => ?_) (fun c_71 => ?_)
                · refine lv_iconst (v := 0) hx hb dX4_held_115 (by decide) ?_
                  refine lv_istore (lv' := [(5, .int 0), (0, .ref (mH M)), (2, .int (sPl S pj)), (3, .int (nI ((hldF S (sPl S pj) t) + 1))), (4, .int (nI t)), (6, .int (nI u))]) hx hb dX4_held_116 hl (by decide) rfl (fun ls hl => ?_)
                  refine lv_iinc (v := nI (u + 1)) (lv' := [(6, .int (nI (u + 1))), (5, .int 0), (0, .ref (mH M)), (2, .int (sPl S pj)), (3, .int (nI ((hldF S (sPl S pj) t) + 1))), (4, .int (nI t))]) hx hb dX4_held_118 hl (k := 5) rfl (nI_1 _) (by decide) rfl (fun ls hl => ?_)
                  refine lv_goto (tgt := 82) hx hb dX4_held_121 (by decide) ?_
                  have hq1 : u + 1 ≤ t ∧ (false = true → (vR S (sPl S t) ∧ kdv S (sPl S t) = 2) ∧ ∀ x9, x9 < u + 1 → ¬ sPl S x9 = sPl S t) ∧ ((vR S (sPl S t) ∧ kdv S (sPl S t) = 2) ∧ (∀ x9, x9 < u + 1 → ¬ sPl S x9 = sPl S t) → false = true) := ⟨by omega, fun e9 => Bool.noConfusion e9, fun q9 => absurd c_71 (q9.2 u (by omega))⟩
                  exact ih2 (u + 1, false) _ _ _ ⟨hq1, hI, hS, lv_sub hl [2, 3, 4, 5, 1, 0] rfl⟩ (by show t - (u + 1) < t - u; omega)
                · refine lv_iconst (v := 1) hx hb dX4_held_111 (by decide) ?_
                  refine lv_goto (tgt := 116) hx hb dX4_held_112 (by decide) ?_
                  refine lv_istore (lv' := [(5, .int 1), (0, .ref (mH M)), (2, .int (sPl S pj)), (3, .int (nI ((hldF S (sPl S pj) t) + 1))), (4, .int (nI t)), (6, .int (nI u))]) hx hb dX4_held_116 hl (by decide) rfl (fun ls hl => ?_)
                  refine lv_iinc (v := nI (u + 1)) (lv' := [(6, .int (nI (u + 1))), (5, .int 1), (0, .ref (mH M)), (2, .int (sPl S pj)), (3, .int (nI ((hldF S (sPl S pj) t) + 1))), (4, .int (nI t))]) hx hb dX4_held_118 hl (k := 5) rfl (nI_1 _) (by decide) rfl (fun ls hl => ?_)
                  refine lv_goto (tgt := 82) hx hb dX4_held_121 (by decide) ?_
                  have hq1 : u + 1 ≤ t ∧ (true = true → (vR S (sPl S t) ∧ kdv S (sPl S t) = 2) ∧ ∀ x9, x9 < u + 1 → ¬ sPl S x9 = sPl S t) ∧ ((vR S (sPl S t) ∧ kdv S (sPl S t) = 2) ∧ (∀ x9, x9 < u + 1 → ¬ sPl S x9 = sPl S t) → true = true) := ⟨by omega, fun _ => ⟨(hb1 rfl).1, fun x9 h9 => by rcases Nat.lt_or_ge x9 u with q | q; exact (hb1 rfl).2 x9 q; rw [show x9 = u by omega]; exact c_71⟩, fun _ => rfl⟩
                  exact ih2 (u + 1, true) _ _ _ ⟨hq1, hI, hS, lv_sub hl [2, 3, 4, 5, 1, 0] rfl⟩ (by show t - (u + 1) < t - u; omega)
  · have ho_3 : oP p := Classical.not_not.mp ho_3
    refine W.eq (g2 := F0 m 4 ls [.int 0]) rfl ?_
    refine lv_if_ne (tgt := 10) hx hb dX4_held_4 (by decide) (fun c => absurd c (by decide)) (fun _ => ?_)
    refine lv_ldc (v := -2000000001) hx hb hown (hts (.constant RX4 54 (-2000000001)) (by decide +kernel)) dX4_held_7 ?_
    exact re_i hx hb hr hlocks hT hA hS hI (PoM.of (by
            unfold sp_held
            rw [if_pos (ho_3)]) hR) (Nat.le_of_ble_eq_true rfl) (Nat.le_of_ble_eq_true rfl) dX4_held_9
