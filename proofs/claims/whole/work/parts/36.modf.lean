theorem in_add {n t : Nat} {i : Int32} (hn : n ≤ 40) (ht : t < 2 ^ 31) : ((0 : Int64) ≤ i.toInt64 + (nI t).toInt64 ∧ i.toInt64 + (nI t).toInt64 ≤ (nI n - 1).toInt64) ↔ ¬ oI n (i + nI t) := by
  have e : (nI n - 1).toInt = (n : Int) - 1 := by
    rw [Int32.toInt_sub, nI_toInt (by omega), show (1 : Int32).toInt = 1 by decide]
    apply Int.bmod_eq_of_le <;> omega
  rw [Int64.le_iff_toInt_le, Int64.le_iff_toInt_le, add64, Int32.toInt_toInt64, e, nI_toInt ht, show (0 : Int64).toInt = 0 by decide]
  unfold oI
  rw [Int32.lt_iff_toInt_lt, Int32.le_iff_toInt_le, nI_toInt (by omega), show (0 : Int32).toInt = 0 by decide, Int32.toInt_add, nI_toInt ht]
  have h1 := Int32.le_toInt i
  have h2 := Int32.toInt_lt i
  rw [Int.bmod_def]
  omega
theorem fit_arg {S : Sx} (hW : Wf S) {u : Int32} (hu : vR S u) (h : ¬ kdv S u < 2) (k : Nat) (kd : Int32) : itv S u k = -1 ∨ kdv S u = 2 ∨ kd = 2 ∨ vT S (itv S u k) := by
  by_cases e : kdv S u = 2
  · exact Or.inr (Or.inl e)
  · rcases (hW.row hu).2.2.2 (kd_ge3 hW hu (fun q => h ((lt2 (hW.kd (Or.inl hu))).mpr q)) e) k with q | q
    · exact Or.inl q
    · exact Or.inr (Or.inr (Or.inr q))
theorem may_of {S : Sx} (hW : Wf S) {u v : Int32} (hu : vR S u) (hm : mayT (kdv S v) (kdv S u)) (h : kdv S u < 2) : isN (kdv S v) := by
  have h1 := (lt2 (hW.kd (Or.inl hu))).mp h
  exact Classical.byContradiction fun q => may_notN hm q h1
theorem may_not {S : Sx} (hW : Wf S) {u v : Int32} (hu : vR S u) (hm : mayT (kdv S v) (kdv S u)) (h : ¬ kdv S u < 2) : ¬ isN (kdv S v) := fun q => h ((lt2 (hW.kd (Or.inl hu))).mpr (may_isN hm q))
set_option maxHeartbeats 4000000 in
set_option maxRecDepth 100000 in
theorem cc_X4_update (l : Launch) (E : En) (A : Nat → Prop) (w : Wd) {S : Sx} {M : Md} {tt : Nat → Int32} (p q u : Int32) (hW : Wf S) (hR : Rm E S M tt w) (hb9 : sNr S < 512 ∧ sNt S < 512 ∧ sNl S < 512) : Ct l yX4_update wsX4_update ({ frames := 2, cells := 0, slots := 0, locals := 45 } : Room) E A w [.ref (mH M), .int p, .int q, .int u] (fun r w' => PoM E M (sp_update S p q u) r w') 0 0 := by
  refine Met.ofW (cc := cX4_update) (maxL := 9) (ret := (some .int)) (by decide) rfl ?_
  intro pp0 ee0 s m args below meth cc0 s₁ B hml hv
  obtain ⟨rfl, hT, hI, hA⟩ := hv
  have hx := B.exec
  have hb := B.bytes
  have hr := B.returns
  have hts := atoms_spec (ws := wsX4_update) B.pre
  have hown : s.vm.findClass RX4 = some m.cls := findClass_of_methodNamed B.named
  have hlocks := B.notSynchronized
  have in_X4 : ∀ w ∈ wsX40, w ∈ wsX4_update := by decide +kernel
  have hS : va_S A s.heap s.heap [] := va_S.rf
  have hl := lv_entry ([.ref (mH M), .int p, .int q, .int u]) (n := 9) (Nat.le_of_ble_eq_true rfl)
  rw [lg_entry_eq]
  generalize (lg_sl ([.ref (mH M), .int p, .int q, .int u]) ++ List.replicate (9 - (lg_sl ([.ref (mH M), .int p, .int q, .int u])).length) Slot.unset).toArray = ls at hl ⊢
  have hl : lv_has ls 9 [(0, .ref (mH M)), (1, .int p), (2, .int q), (3, .int u)] := hl
  refine lv_iload_n hx hb dX4_update_0 rfl (lv_at hl 1 rfl) ?_
  refine ca_S (As := [.int p]) (rest := []) ⟨hx, hb, hml, hown, hts⟩ (cc_X4_isPlace l E A _ p) (va_cwS 1 hts gX4_update_X4_isPlace rfl rfl rfl (by decide +kernel) ⟨(Nat.le_of_ble_eq_true rfl), (Nat.le_of_ble_eq_true rfl)⟩) hT hI hA hS rfl rfl hl.1 (Nat.le_of_ble_eq_true rfl) dX4_update_1 ⟨(Nat.le_of_ble_eq_true rfl), (Nat.le_of_ble_eq_true rfl)⟩ (fun r w_2 H locs hp_1 hI hS => ?_)
  obtain ⟨rfl, ⟨ho_3, rfl⟩ | ⟨ho_3, rfl⟩⟩ := hp_1
  · refine W.eq (g2 := F0 m 4 ls [.int 1]) rfl ?_
    refine lv_if_eq (tgt := 21) hx hb dX4_update_4 (by decide) (fun c => absurd c (by decide)) (fun _ => ?_)
    refine lv_iload_n hx hb dX4_update_7 rfl (lv_at hl 2 rfl) ?_
    refine ca_S (As := [.int q]) (rest := []) ⟨hx, hb, hml, hown, hts⟩ (cc_X4_isPlace l E A _ q) (va_cwS 1 hts gX4_update_X4_isPlace rfl rfl rfl (by decide +kernel) ⟨(Nat.le_of_ble_eq_true rfl), (Nat.le_of_ble_eq_true rfl)⟩) hT hI hA hS rfl rfl hl.1 (Nat.le_of_ble_eq_true rfl) dX4_update_8 ⟨(Nat.le_of_ble_eq_true rfl), (Nat.le_of_ble_eq_true rfl)⟩ (fun r w_5 H locs hp_4 hI hS => ?_)
    obtain ⟨rfl, ⟨ho_6, rfl⟩ | ⟨ho_6, rfl⟩⟩ := hp_4
    · refine W.eq (g2 := F0 m 11 ls [.int 1]) rfl ?_
      refine lv_if_eq (tgt := 21) hx hb dX4_update_11 (by decide) (fun c => absurd c (by decide)) (fun _ => ?_)
      refine lv_iload_n hx hb dX4_update_14 rfl (lv_at hl 3 rfl) ?_
      refine ca_S (As := [.int u]) (rest := []) ⟨hx, hb, hml, hown, hts⟩ (cc_X4_isPlace l E A _ u) (va_cwS 1 hts gX4_update_X4_isPlace rfl rfl rfl (by decide +kernel) ⟨(Nat.le_of_ble_eq_true rfl), (Nat.le_of_ble_eq_true rfl)⟩) hT hI hA hS rfl rfl hl.1 (Nat.le_of_ble_eq_true rfl) dX4_update_15 ⟨(Nat.le_of_ble_eq_true rfl), (Nat.le_of_ble_eq_true rfl)⟩ (fun r w_8 H locs hp_7 hI hS => ?_)
      obtain ⟨rfl, ⟨ho_9, rfl⟩ | ⟨ho_9, rfl⟩⟩ := hp_7
      · refine W.eq (g2 := F0 m 18 ls [.int 1]) rfl ?_
        refine lv_if_ne (tgt := 24) hx hb dX4_update_18 (by decide) (fun _ => ?_) (fun c => absurd c (by decide))
        obtain ⟨pj, hpj, rfl⟩ := isP_nat ho_3
        obtain ⟨qj, hqj, rfl⟩ := isP_nat ho_6
        obtain ⟨uj, huj, rfl⟩ := isP_nat ho_9
        refine lv_aload_n hx hb dX4_update_24 rfl (lv_at hl 0 rfl) ?_
        refine wr_get (ci := 3) (C := RX4) (T := TX4) (N := 11) (v := .ref (mP M)) hx hb hts in_X4 hown hT hI hR.1 rfl 1 (by decide) (hts (.fieldLink RX4 7 "CopyRowsModel" "places" "[I") (by decide +kernel)) rfl dX4_update_25 ?_
        refine lv_iload_n hx hb dX4_update_28 rfl (lv_at hl 1 rfl) ?_
        refine wr_ialdN (t := pj) (n := 12) (f := plF S) hx hb hT hI hR.2.1 (by omega) (by omega) dX4_update_29 ?_
        refine W.eq (g2 := F0 m 30 ls [.int (sPl S pj)]) (by rw [plF_at (by omega)]) ?_
        refine lv_iconst (v := -1) hx hb dX4_update_30 (by decide) ?_
        refine lv_icmp_eq (tgt := 54) hx hb dX4_update_31 (by decide) (fun c_10 => ?_) (fun c_10 => ?_)
        · refine lv_aload_n hx hb dX4_update_54 rfl (lv_at hl 0 rfl) ?_
          refine lv_iconst (v := 1) hx hb dX4_update_55 (by decide) ?_
          refine ca_V (As := [.int 1]) (rest := []) (r0 := (RX4, TX4, 11)) (ci := 3) ⟨hx, hb, hml, hown, hts⟩ (cc_X4_no l E A _ 1 hR) (cwV 1 hts gX4_update_X4_no rfl rfl rfl (by decide +kernel) ⟨(Nat.le_of_ble_eq_true rfl), (Nat.le_of_ble_eq_true rfl)⟩) hT hI hA hS rfl hR.1 rfl rfl hl.1 (Nat.le_of_ble_eq_true rfl) dX4_update_56 ⟨(Nat.le_of_ble_eq_true rfl), (Nat.le_of_ble_eq_true rfl)⟩ (fun r w_12 H locs hp_11 hI hS => ?_)
          obtain ⟨rfl, hR⟩ := hp_11
          refine W.eq (g2 := F0 m 59 ls [.int 0]) rfl ?_
          exact re_i hx hb hr hlocks hT hA hS hI (PoM.of (by
                        unfold sp_update
                        try simp only [pv_nI hpj, pv_nI hqj, pv_nI huj]
                        rw [if_neg ((fun q => q.elim ho_3 (fun q => q.elim ho_6 ho_9))), if_pos (Or.inl c_10)]) hR) (Nat.le_of_ble_eq_true rfl) (Nat.le_of_ble_eq_true rfl) dX4_update_59
        · refine lv_aload_n hx hb dX4_update_34 rfl (lv_at hl 0 rfl) ?_
          refine wr_get (ci := 3) (C := RX4) (T := TX4) (N := 11) (v := .ref (mP M)) hx hb hts in_X4 hown hT hI hR.1 rfl 1 (by decide) (hts (.fieldLink RX4 7 "CopyRowsModel" "places" "[I") (by decide +kernel)) rfl dX4_update_35 ?_
          refine lv_iload_n hx hb dX4_update_38 rfl (lv_at hl 2 rfl) ?_
          refine wr_ialdN (t := qj) (n := 12) (f := plF S) hx hb hT hI hR.2.1 (by omega) (by omega) dX4_update_39 ?_
          refine W.eq (g2 := F0 m 40 ls [.int (sPl S qj)]) (by rw [plF_at (by omega)]) ?_
          refine lv_iconst (v := -1) hx hb dX4_update_40 (by decide) ?_
          refine lv_icmp_eq (tgt := 54) hx hb dX4_update_41 (by decide) (fun c_13 => ?_) (fun c_13 => ?_)
          · refine lv_aload_n hx hb dX4_update_54 rfl (lv_at hl 0 rfl) ?_
            refine lv_iconst (v := 1) hx hb dX4_update_55 (by decide) ?_
            refine ca_V (As := [.int 1]) (rest := []) (r0 := (RX4, TX4, 11)) (ci := 3) ⟨hx, hb, hml, hown, hts⟩ (cc_X4_no l E A _ 1 hR) (cwV 1 hts gX4_update_X4_no rfl rfl rfl (by decide +kernel) ⟨(Nat.le_of_ble_eq_true rfl), (Nat.le_of_ble_eq_true rfl)⟩) hT hI hA hS rfl hR.1 rfl rfl hl.1 (Nat.le_of_ble_eq_true rfl) dX4_update_56 ⟨(Nat.le_of_ble_eq_true rfl), (Nat.le_of_ble_eq_true rfl)⟩ (fun r w_15 H locs hp_14 hI hS => ?_)
            obtain ⟨rfl, hR⟩ := hp_14
            refine W.eq (g2 := F0 m 59 ls [.int 0]) rfl ?_
            exact re_i hx hb hr hlocks hT hA hS hI (PoM.of (by
                            unfold sp_update
                            try simp only [pv_nI hpj, pv_nI hqj, pv_nI huj]
                            rw [if_neg ((fun q => q.elim ho_3 (fun q => q.elim ho_6 ho_9))), if_pos (Or.inr (Or.inl c_13))]) hR) (Nat.le_of_ble_eq_true rfl) (Nat.le_of_ble_eq_true rfl) dX4_update_59
          · refine lv_aload_n hx hb dX4_update_44 rfl (lv_at hl 0 rfl) ?_
            refine wr_get (ci := 3) (C := RX4) (T := TX4) (N := 11) (v := .ref (mP M)) hx hb hts in_X4 hown hT hI hR.1 rfl 1 (by decide) (hts (.fieldLink RX4 7 "CopyRowsModel" "places" "[I") (by decide +kernel)) rfl dX4_update_45 ?_
            refine lv_iload_n hx hb dX4_update_48 rfl (lv_at hl 3 rfl) ?_
            refine wr_ialdN (t := uj) (n := 12) (f := plF S) hx hb hT hI hR.2.1 (by omega) (by omega) dX4_update_49 ?_
            refine W.eq (g2 := F0 m 50 ls [.int (sPl S uj)]) (by rw [plF_at (by omega)]) ?_
            refine lv_iconst (v := -1) hx hb dX4_update_50 (by decide) ?_
            refine lv_icmp_ne (tgt := 60) hx hb dX4_update_51 (by decide) (fun c_16 => ?_) (fun c_16 => ?_)
            · refine lv_aload_n hx hb dX4_update_60 rfl (lv_at hl 0 rfl) ?_
              refine lv_iload_n hx hb dX4_update_61 rfl (lv_at hl 1 rfl) ?_
              refine ca_V (As := [.int (nI pj)]) (rest := []) (r0 := (RX4, TX4, 11)) (ci := 3) ⟨hx, hb, hml, hown, hts⟩ (cc_X4_kindOf l E A _ (by omega) hW hR) (cwV 1 hts gX4_update_X4_kindOf rfl rfl rfl (by decide +kernel) ⟨(Nat.le_of_ble_eq_true rfl), (Nat.le_of_ble_eq_true rfl)⟩) hT hI hA hS rfl hR.1 rfl rfl hl.1 (Nat.le_of_ble_eq_true rfl) dX4_update_62 ⟨(Nat.le_of_ble_eq_true rfl), (Nat.le_of_ble_eq_true rfl)⟩ (fun r w_18 H locs hp_17 hI hS => ?_)
              obtain ⟨rfl, rfl⟩ := hp_17
              rw [kp_ne c_10]
              refine W.eq (g2 := F0 m 65 ls [.int (kdv S (sPl S pj))]) rfl ?_
              refine lv_iconst (v := 1) hx hb dX4_update_65 (by decide) ?_
              refine lv_icmp_ne (tgt := 87) hx hb dX4_update_66 (by decide) (fun c_19 => ?_) (fun c_19 => ?_)
              · refine lv_aload_n hx hb dX4_update_87 rfl (lv_at hl 0 rfl) ?_
                refine lv_iconst (v := 5) hx hb dX4_update_88 (by decide) ?_
                refine ca_V (As := [.int 5]) (rest := []) (r0 := (RX4, TX4, 11)) (ci := 3) ⟨hx, hb, hml, hown, hts⟩ (cc_X4_no l E A _ 5 hR) (cwV 1 hts gX4_update_X4_no rfl rfl rfl (by decide +kernel) ⟨(Nat.le_of_ble_eq_true rfl), (Nat.le_of_ble_eq_true rfl)⟩) hT hI hA hS rfl hR.1 rfl rfl hl.1 (Nat.le_of_ble_eq_true rfl) dX4_update_89 ⟨(Nat.le_of_ble_eq_true rfl), (Nat.le_of_ble_eq_true rfl)⟩ (fun r w_21 H locs hp_20 hI hS => ?_)
                obtain ⟨rfl, hR⟩ := hp_20
                refine W.eq (g2 := F0 m 92 ls [.int 0]) rfl ?_
                exact re_i hx hb hr hlocks hT hA hS hI (PoM.of (by
                                    unfold sp_update
                                    try simp only [pv_nI hpj, pv_nI hqj, pv_nI huj]
                                    rw [if_neg ((fun q => q.elim ho_3 (fun q => q.elim ho_6 ho_9))), if_neg (fun q9 => q9.elim c_10 (fun q9 => q9.elim c_13 c_16)), if_pos (fun q9 => c_19 q9.1)]) hR) (Nat.le_of_ble_eq_true rfl) (Nat.le_of_ble_eq_true rfl) dX4_update_92
              · refine lv_aload_n hx hb dX4_update_69 rfl (lv_at hl 0 rfl) ?_
                refine lv_iload_n hx hb dX4_update_70 rfl (lv_at hl 2 rfl) ?_
                refine ca_V (As := [.int (nI qj)]) (rest := []) (r0 := (RX4, TX4, 11)) (ci := 3) ⟨hx, hb, hml, hown, hts⟩ (cc_X4_kindOf l E A _ (by omega) hW hR) (cwV 1 hts gX4_update_X4_kindOf rfl rfl rfl (by decide +kernel) ⟨(Nat.le_of_ble_eq_true rfl), (Nat.le_of_ble_eq_true rfl)⟩) hT hI hA hS rfl hR.1 rfl rfl hl.1 (Nat.le_of_ble_eq_true rfl) dX4_update_71 ⟨(Nat.le_of_ble_eq_true rfl), (Nat.le_of_ble_eq_true rfl)⟩ (fun r w_23 H locs hp_22 hI hS => ?_)
                obtain ⟨rfl, rfl⟩ := hp_22
                rw [kp_ne c_13]
                refine W.eq (g2 := F0 m 74 ls [.int (kdv S (sPl S qj))]) rfl ?_
                refine lv_iconst (v := 1) hx hb dX4_update_74 (by decide) ?_
                refine lv_icmp_ne (tgt := 87) hx hb dX4_update_75 (by decide) (fun c_24 => ?_) (fun c_24 => ?_)
                · refine lv_aload_n hx hb dX4_update_87 rfl (lv_at hl 0 rfl) ?_
                  refine lv_iconst (v := 5) hx hb dX4_update_88 (by decide) ?_
                  refine ca_V (As := [.int 5]) (rest := []) (r0 := (RX4, TX4, 11)) (ci := 3) ⟨hx, hb, hml, hown, hts⟩ (cc_X4_no l E A _ 5 hR) (cwV 1 hts gX4_update_X4_no rfl rfl rfl (by decide +kernel) ⟨(Nat.le_of_ble_eq_true rfl), (Nat.le_of_ble_eq_true rfl)⟩) hT hI hA hS rfl hR.1 rfl rfl hl.1 (Nat.le_of_ble_eq_true rfl) dX4_update_89 ⟨(Nat.le_of_ble_eq_true rfl), (Nat.le_of_ble_eq_true rfl)⟩ (fun r w_26 H locs hp_25 hI hS => ?_)
                  obtain ⟨rfl, hR⟩ := hp_25
                  refine W.eq (g2 := F0 m 92 ls [.int 0]) rfl ?_
                  exact re_i hx hb hr hlocks hT hA hS hI (PoM.of (by
                                        unfold sp_update
                                        try simp only [pv_nI hpj, pv_nI hqj, pv_nI huj]
                                        rw [if_neg ((fun q => q.elim ho_3 (fun q => q.elim ho_6 ho_9))), if_neg (fun q9 => q9.elim c_10 (fun q9 => q9.elim c_13 c_16)), if_pos (fun q9 => c_24 q9.2.1)]) hR) (Nat.le_of_ble_eq_true rfl) (Nat.le_of_ble_eq_true rfl) dX4_update_92
                · refine lv_aload_n hx hb dX4_update_78 rfl (lv_at hl 0 rfl) ?_
                  refine lv_iload_n hx hb dX4_update_79 rfl (lv_at hl 3 rfl) ?_
                  refine ca_V (As := [.int (nI uj)]) (rest := []) (r0 := (RX4, TX4, 11)) (ci := 3) ⟨hx, hb, hml, hown, hts⟩ (cc_X4_kindOf l E A _ (by omega) hW hR) (cwV 1 hts gX4_update_X4_kindOf rfl rfl rfl (by decide +kernel) ⟨(Nat.le_of_ble_eq_true rfl), (Nat.le_of_ble_eq_true rfl)⟩) hT hI hA hS rfl hR.1 rfl rfl hl.1 (Nat.le_of_ble_eq_true rfl) dX4_update_80 ⟨(Nat.le_of_ble_eq_true rfl), (Nat.le_of_ble_eq_true rfl)⟩ (fun r w_28 H locs hp_27 hI hS => ?_)
                  obtain ⟨rfl, rfl⟩ := hp_27
                  rw [kp_ne c_16]
                  refine W.eq (g2 := F0 m 83 ls [.int (kdv S (sPl S uj))]) rfl ?_
                  refine lv_iconst (v := 1) hx hb dX4_update_83 (by decide) ?_
                  refine lv_icmp_eq (tgt := 93) hx hb dX4_update_84 (by decide) (fun c_29 => ?_) (fun c_29 => ?_)
                  · refine lv_aload_n hx hb dX4_update_93 rfl (lv_at hl 0 rfl) ?_
                    refine wr_get (ci := 3) (C := RX4) (T := TX4) (N := 11) (v := .ref (mP M)) hx hb hts in_X4 hown hT hI hR.1 rfl 1 (by decide) (hts (.fieldLink RX4 7 "CopyRowsModel" "places" "[I") (by decide +kernel)) rfl dX4_update_94 ?_
                    refine lv_iload_n hx hb dX4_update_97 rfl (lv_at hl 1 rfl) ?_
                    refine wr_ialdN (t := pj) (n := 12) (f := plF S) hx hb hT hI hR.2.1 (by omega) (by omega) dX4_update_98 ?_
                    refine W.eq (g2 := F0 m 99 ls [.int (sPl S pj)]) (by rw [plF_at (by omega)]) ?_
                    refine lv_istore (lv' := [(4, .int (sPl S pj)), (0, .ref (mH M)), (1, .int (nI pj)), (2, .int (nI qj)), (3, .int (nI uj))]) hx hb dX4_update_99 hl (by decide) rfl (fun ls hl => ?_)
                    refine lv_aload_n hx hb dX4_update_101 rfl (lv_at hl 1 rfl) ?_
                    refine wr_get (ci := 3) (C := RX4) (T := TX4) (N := 11) (v := .ref (mP M)) hx hb hts in_X4 hown hT hI hR.1 rfl 1 (by decide) (hts (.fieldLink RX4 7 "CopyRowsModel" "places" "[I") (by decide +kernel)) rfl dX4_update_102 ?_
                    refine lv_iload_n hx hb dX4_update_105 rfl (lv_at hl 3 rfl) ?_
                    refine wr_ialdN (t := qj) (n := 12) (f := plF S) hx hb hT hI hR.2.1 (by omega) (by omega) dX4_update_106 ?_
                    refine W.eq (g2 := F0 m 107 ls [.int (sPl S qj)]) (by rw [plF_at (by omega)]) ?_
                    refine lv_istore (lv' := [(5, .int (sPl S qj)), (4, .int (sPl S pj)), (0, .ref (mH M)), (1, .int (nI pj)), (2, .int (nI qj)), (3, .int (nI uj))]) hx hb dX4_update_107 hl (by decide) rfl (fun ls hl => ?_)
                    refine lv_aload_n hx hb dX4_update_109 rfl (lv_at hl 2 rfl) ?_
                    refine wr_get (ci := 3) (C := RX4) (T := TX4) (N := 11) (v := .ref (mP M)) hx hb hts in_X4 hown hT hI hR.1 rfl 1 (by decide) (hts (.fieldLink RX4 7 "CopyRowsModel" "places" "[I") (by decide +kernel)) rfl dX4_update_110 ?_
                    refine lv_iload_n hx hb dX4_update_113 rfl (lv_at hl 5 rfl) ?_
                    refine wr_ialdN (t := uj) (n := 12) (f := plF S) hx hb hT hI hR.2.1 (by omega) (by omega) dX4_update_114 ?_
                    refine W.eq (g2 := F0 m 115 ls [.int (sPl S uj)]) (by rw [plF_at (by omega)]) ?_
                    refine lv_istore (lv' := [(6, .int (sPl S uj)), (5, .int (sPl S qj)), (4, .int (sPl S pj)), (0, .ref (mH M)), (1, .int (nI pj)), (2, .int (nI qj)), (3, .int (nI uj))]) hx hb dX4_update_115 hl (by decide) rfl (fun ls hl => ?_)
                    refine lv_iconst (v := 0) hx hb dX4_update_117 (by decide) ?_
                    refine lv_istore (lv' := [(7, .int 0), (6, .int (sPl S uj)), (5, .int (sPl S qj)), (4, .int (sPl S pj)), (0, .ref (mH M)), (1, .int (nI pj)), (2, .int (nI qj)), (3, .int (nI uj))]) hx hb dX4_update_118 hl (by decide) rfl (fun ls hl => ?_)
                    have hrp : vR S (sPl S pj) := row_of_N ((hW.1 pj).resolve_left c_10) (Or.inr c_19)
                    have hrq : vR S (sPl S qj) := row_of_N ((hW.1 qj).resolve_left c_13) (Or.inr c_24)
                    have hru : vR S (sPl S uj) := row_of_N ((hW.1 uj).resolve_left c_16) (Or.inr c_29)
                    have hlq := hW.ln (Or.inl hrq)
                    refine lp_w (ι := Nat × Sx) (fun q9 => lnv S (sPl S qj) - q9.1) (fun q9 H locs ls => (q9.1 ≤ lnv S (sPl S qj) ∧ Wf q9.2 ∧ (vR q9.2 (sPl S pj) ∧ vR q9.2 (sPl S qj) ∧ vR q9.2 (sPl S uj)) ∧ (kdv q9.2 (sPl S pj) = 1 ∧ kdv q9.2 (sPl S qj) = 1 ∧ kdv q9.2 (sPl S uj) = 1) ∧ lnv q9.2 (sPl S qj) = lnv S (sPl S qj) ∧ upS (sPl S pj) (sPl S qj) (sPl S uj) (lnv S (sPl S qj)) 0 S = upS (sPl S pj) (sPl S qj) (sPl S uj) (lnv S (sPl S qj) - q9.1) q9.1 q9.2) ∧ (∃ w9, Hv E A w9 H ∧ Rm E q9.2 M tt w9) ∧ va_S A s.heap H locs ∧ lv_has ls 9 [(0, .ref (mH M)), (4, .int (sPl S pj)), (5, .int (sPl S qj)), (6, .int (sPl S uj)), (7, .int (nI q9.1))]) ?_ (0, S) _ _ _ ⟨⟨Nat.zero_le _, hW, ⟨hrp, hrq, hru⟩, ⟨c_19, c_24, c_29⟩, rfl, rfl⟩, ⟨_, hI, hR⟩, hS, lv_sub hl [4, 3, 2, 1, 0] rfl⟩
                    rintro ⟨t, T9⟩ H locs ls ⟨⟨ht, hW, ⟨hrp, hrq, hru⟩, ⟨hkp, hkq, hku⟩, hlen, hlp⟩, ⟨w9, hI, hR⟩, hS, hl⟩ ih
                    dsimp only at ht hW hrp hrq hru hkp hkq hku hlen hlp hR hl
                    have hl1 := hW.ln (Or.inl hrp)
                    have hl2 := hW.ln (Or.inl hrq)
                    have hl3 := hW.ln (Or.inl hru)
                    refine lv_iload hx hb dX4_update_120 (lv_at hl 4 rfl) ?_
                    refine lv_aload_n hx hb dX4_update_122 rfl (lv_at hl 0 rfl) ?_
                    refine wr_get (ci := 3) (C := RX4) (T := TX4) (N := 11) (v := .ref (mL M)) hx hb hts in_X4 hown hT hI hR.1 rfl 4 (by decide) (hts (.fieldLink RX4 16 "CopyRowsModel" "lengths" "[I") (by decide +kernel)) rfl dX4_update_123 ?_
                    refine lv_iload hx hb dX4_update_126 (lv_at hl 2 rfl) ?_
                    refine W.eq (g2 := F0 m 128 ls [.int (nI (ix (sPl S qj))), .ref (mL M), .int (nI t)]) (by rw [nI_ix hrq.1]) ?_
                    refine wr_ialdN (t := ix (sPl S qj)) (n := 520) (f := lnF T9) hx hb hT hI hR.2.2.2.1 (by have h9 := hrq.2; have h8 := hW.2.2.2; omega) (by omega) dX4_update_128 ?_
                    refine W.eq (g2 := F0 m 129 ls [.int (nI (lnv T9 (sPl S qj))), .int (nI t)]) (by rw [lnv_r hrq]; rfl) ?_
                    refine lv_icmp_ge (tgt := 212) hx hb dX4_update_129 (by decide) (fun c_30 => ?_) (fun c_30 => ?_)
                    · have c_30 : lnv T9 (sPl S qj) ≤ t := (nI_leI (a := lnv T9 (sPl S qj)) (b := t) (by omega) (by omega)).mp c_30
                      refine lv_aload_n hx hb dX4_update_212 rfl (lv_at hl 0 rfl) ?_
                      refine lv_aload_n hx hb dX4_update_213 rfl (lv_at hl 0 rfl) ?_
                      refine wr_get (ci := 3) (C := RX4) (T := TX4) (N := 11) (v := .ref (mL M)) hx hb hts in_X4 hown hT hI hR.1 rfl 4 (by decide) (hts (.fieldLink RX4 16 "CopyRowsModel" "lengths" "[I") (by decide +kernel)) rfl dX4_update_214 ?_
                      refine lv_iload hx hb dX4_update_217 (lv_at hl 2 rfl) ?_
                      refine W.eq (g2 := F0 m 219 ls [.int (nI (ix (sPl S qj))), .ref (mL M), .ref (mH M)]) (by rw [nI_ix hrq.1]) ?_
                      refine wr_ialdN (t := ix (sPl S qj)) (n := 520) (f := lnF T9) hx hb hT hI hR.2.2.2.1 (by have h9 := hrq.2; have h8 := hW.2.2.2; omega) (by omega) dX4_update_219 ?_
                      refine W.eq (g2 := F0 m 220 ls [.int (nI (lnv T9 (sPl S qj))), .ref (mH M)]) (by rw [lnv_r hrq]; rfl) ?_
                      refine ca_V (As := [.int (nI (lnv T9 (sPl S qj)))]) (rest := []) (r0 := (RX4, TX4, 11)) (ci := 3) ⟨hx, hb, hml, hown, hts⟩ (cc_X4_yes l E A _ (nI (lnv T9 (sPl S qj))) hR) (cwV 1 hts gX4_update_X4_yes rfl rfl rfl (by decide +kernel) ⟨(Nat.le_of_ble_eq_true rfl), (Nat.le_of_ble_eq_true rfl)⟩) hT hI hA hS rfl hR.1 rfl rfl hl.1 (Nat.le_of_ble_eq_true rfl) dX4_update_220 ⟨(Nat.le_of_ble_eq_true rfl), (Nat.le_of_ble_eq_true rfl)⟩ (fun r w_32 H locs hp_31 hI hS => ?_)
                      obtain ⟨rfl, hR⟩ := hp_31
                      refine W.eq (g2 := F0 m 223 ls [.int (nI (lnv T9 (sPl S qj)))]) rfl ?_
                      exact re_i hx hb hr hlocks hT hA hS hI (PoM.of (by
                                                unfold sp_update
                                                try simp only [pv_nI hpj, pv_nI hqj, pv_nI huj]
                                                rw [if_neg ((fun q => q.elim ho_3 (fun q => q.elim ho_6 ho_9))), if_neg (fun q9 => q9.elim c_10 (fun q9 => q9.elim c_13 c_16)), if_neg (not_not_intro ⟨c_19, c_24, c_29⟩)]
                                                rw [hlp, show lnv S (sPl S qj) - t = 0 by omega]
                                                rw [hlen, show t = lnv S (sPl S qj) by omega]
                                                rfl) hR) (Nat.le_of_ble_eq_true rfl) (Nat.le_of_ble_eq_true rfl) dX4_update_223
                    · have c_30 : ¬ lnv T9 (sPl S qj) ≤ t := fun q => c_30 ((nI_leI (a := lnv T9 (sPl S qj)) (b := t) (by omega) (by omega)).mpr q)
                      refine lv_aload_n hx hb dX4_update_132 rfl (lv_at hl 0 rfl) ?_
                      refine lv_iload hx hb dX4_update_133 (lv_at hl 2 rfl) ?_
                      refine lv_iload hx hb dX4_update_135 (lv_at hl 4 rfl) ?_
                      refine ca_V (As := [.int (sPl S qj), .int (nI t)]) (rest := []) (r0 := (RX4, TX4, 11)) (ci := 3) ⟨hx, hb, hml, hown, hts⟩ (cM_get l E A _ (S := T9) hrq (by have := hW.2.2.2; omega) (by omega) hR) (cwV 2 hts gX4_update_X4_get rfl rfl rfl (by decide +kernel) ⟨(Nat.le_of_ble_eq_true rfl), (Nat.le_of_ble_eq_true rfl)⟩) hT hI hA hS rfl hR.1 rfl rfl hl.1 (Nat.le_of_ble_eq_true rfl) dX4_update_137 ⟨(Nat.le_of_ble_eq_true rfl), (Nat.le_of_ble_eq_true rfl)⟩ (fun r w_34 H locs hp_33 hI hS => ?_)
                      obtain ⟨rfl, rfl⟩ := hp_33
                      refine W.eq (g2 := F0 m 140 ls [.int (itv T9 (sPl S qj) t)]) rfl ?_
                      refine lv_topi (fun k0 hk0 => ?_)
                      refine lv_istore (lv' := [(8, .int k0), (0, .ref (mH M)), (4, .int (sPl S pj)), (5, .int (sPl S qj)), (6, .int (sPl S uj)), (7, .int (nI t))]) hx hb dX4_update_140 hl (by decide) rfl (fun ls hl => ?_)
                      refine lv_iload hx hb dX4_update_142 (lv_at hl 0 rfl) ?_
                      refine lv_i2l (v := k0.toInt64) hx hb dX4_update_144 rfl ?_
                      refine lv_lconst (v := 0) hx hb dX4_update_145 (by decide) ?_
                      refine lv_aload_n hx hb dX4_update_146 rfl (lv_at hl 1 rfl) ?_
                      refine wr_get (ci := 3) (C := RX4) (T := TX4) (N := 11) (v := .ref (mL M)) hx hb hts in_X4 hown hT hI hR.1 rfl 4 (by decide) (hts (.fieldLink RX4 16 "CopyRowsModel" "lengths" "[I") (by decide +kernel)) rfl dX4_update_147 ?_
                      refine lv_iload hx hb dX4_update_150 (lv_at hl 4 rfl) ?_
                      refine W.eq (g2 := F0 m 152 ls [.int (nI (ix (sPl S uj))), .ref (mL M), .long 0, .long k0.toInt64]) (by rw [nI_ix hru.1]) ?_
                      refine wr_ialdN (t := ix (sPl S uj)) (n := 520) (f := lnF T9) hx hb hT hI hR.2.2.2.1 (by have h9 := hru.2; have h8 := hW.2.2.2; omega) (by omega) dX4_update_152 ?_
                      refine W.eq (g2 := F0 m 153 ls [.int (nI (lnv T9 (sPl S uj))), .long 0, .long k0.toInt64]) (by rw [lnv_r hru]; rfl) ?_
                      refine lv_iconst (v := 1) hx hb dX4_update_153 (by decide) ?_
                      refine lv_isub hx hb dX4_update_154 ?_
                      refine lv_i2l (v := ((nI (lnv T9 (sPl S uj))) - 1).toInt64) hx hb dX4_update_155 rfl ?_
                      refine ca_S (As := [.long k0.toInt64, .long 0, .long (((nI (lnv T9 (sPl S uj))) - 1).toInt64)]) (rest := []) ⟨hx, hb, hml, hown, hts⟩ (cc_X4_within l E A _ k0.toInt64 0 (((nI (lnv T9 (sPl S uj))) - 1).toInt64)) (va_cwS 3 hts gX4_update_X4_within rfl rfl rfl (by decide +kernel) ⟨(Nat.le_of_ble_eq_true rfl), (Nat.le_of_ble_eq_true rfl)⟩) hT hI hA hS rfl rfl hl.1 (Nat.le_of_ble_eq_true rfl) dX4_update_156 ⟨(Nat.le_of_ble_eq_true rfl), (Nat.le_of_ble_eq_true rfl)⟩ (fun r w_36 H locs hp_35 hI hS => ?_)
                      obtain ⟨rfl, ⟨hw_37, rfl⟩ | ⟨hw_37, rfl⟩⟩ := hp_35
                      · have hw_37 : ¬ oI (lnv T9 (sPl S uj)) k0 := (in_item (hW.ln (Or.inl hru))).mp hw_37
                        refine W.eq (g2 := F0 m 159 ls [.int 1]) rfl ?_
                        refine lv_if_eq (tgt := 182) hx hb dX4_update_159 (by decide) (fun c => absurd c (by decide)) (fun _ => ?_)
                        refine lv_iload hx hb dX4_update_162 (lv_at hl 0 rfl) ?_
                        refine lv_i2l (v := k0.toInt64) hx hb dX4_update_164 rfl ?_
                        refine lv_lconst (v := 0) hx hb dX4_update_165 (by decide) ?_
                        refine lv_aload_n hx hb dX4_update_166 rfl (lv_at hl 1 rfl) ?_
                        refine wr_get (ci := 3) (C := RX4) (T := TX4) (N := 11) (v := .ref (mL M)) hx hb hts in_X4 hown hT hI hR.1 rfl 4 (by decide) (hts (.fieldLink RX4 16 "CopyRowsModel" "lengths" "[I") (by decide +kernel)) rfl dX4_update_167 ?_
                        refine lv_iload hx hb dX4_update_170 (lv_at hl 2 rfl) ?_
                        refine W.eq (g2 := F0 m 172 ls [.int (nI (ix (sPl S pj))), .ref (mL M), .long 0, .long k0.toInt64]) (by rw [nI_ix hrp.1]) ?_
                        refine wr_ialdN (t := ix (sPl S pj)) (n := 520) (f := lnF T9) hx hb hT hI hR.2.2.2.1 (by have h9 := hrp.2; have h8 := hW.2.2.2; omega) (by omega) dX4_update_172 ?_
                        refine W.eq (g2 := F0 m 173 ls [.int (nI (lnv T9 (sPl S pj))), .long 0, .long k0.toInt64]) (by rw [lnv_r hrp]; rfl) ?_
                        refine lv_iconst (v := 1) hx hb dX4_update_173 (by decide) ?_
                        refine lv_isub hx hb dX4_update_174 ?_
                        refine lv_i2l (v := ((nI (lnv T9 (sPl S pj))) - 1).toInt64) hx hb dX4_update_175 rfl ?_
                        refine ca_S (As := [.long k0.toInt64, .long 0, .long (((nI (lnv T9 (sPl S pj))) - 1).toInt64)]) (rest := []) ⟨hx, hb, hml, hown, hts⟩ (cc_X4_within l E A _ k0.toInt64 0 (((nI (lnv T9 (sPl S pj))) - 1).toInt64)) (va_cwS 3 hts gX4_update_X4_within rfl rfl rfl (by decide +kernel) ⟨(Nat.le_of_ble_eq_true rfl), (Nat.le_of_ble_eq_true rfl)⟩) hT hI hA hS rfl rfl hl.1 (Nat.le_of_ble_eq_true rfl) dX4_update_176 ⟨(Nat.le_of_ble_eq_true rfl), (Nat.le_of_ble_eq_true rfl)⟩ (fun r w_39 H locs hp_38 hI hS => ?_)
                        obtain ⟨rfl, ⟨hw_40, rfl⟩ | ⟨hw_40, rfl⟩⟩ := hp_38
                        · have hw_40 : ¬ oI (lnv T9 (sPl S pj)) k0 := (in_item (hW.ln (Or.inl hrp))).mp hw_40
                          refine W.eq (g2 := F0 m 179 ls [.int 1]) rfl ?_
                          refine lv_if_ne (tgt := 190) hx hb dX4_update_179 (by decide) (fun _ => ?_) (fun c => absurd c (by decide))
                          obtain ⟨kj, hkj, rfl⟩ := oI_nat hl1 hw_40
                          obtain ⟨kk, hkk, hke⟩ := oI_nat hl3 hw_37
                          obtain rfl : kj = kk := nI_inj (by omega) (by omega) hke
                          refine lv_aload_n hx hb dX4_update_190 rfl (lv_at hl 1 rfl) ?_
                          refine lv_iload hx hb dX4_update_191 (lv_at hl 2 rfl) ?_
                          refine lv_iload hx hb dX4_update_193 (lv_at hl 0 rfl) ?_
                          refine lv_aload_n hx hb dX4_update_195 rfl (lv_at hl 1 rfl) ?_
                          refine lv_iload hx hb dX4_update_196 (lv_at hl 4 rfl) ?_
                          refine lv_iload hx hb dX4_update_198 (lv_at hl 0 rfl) ?_
                          refine ca_V (As := [.int (sPl S uj), .int (nI kj)]) (rest := [.int (nI kj), .int (sPl S pj), .ref (mH M)]) (r0 := (RX4, TX4, 11)) (ci := 3) ⟨hx, hb, hml, hown, hts⟩ (cM_get l E A _ (S := T9) hru (by have := hW.2.2.2; omega) (by omega) hR) (cwV 2 hts gX4_update_X4_get rfl rfl rfl (by decide +kernel) ⟨(Nat.le_of_ble_eq_true rfl), (Nat.le_of_ble_eq_true rfl)⟩) hT hI hA hS rfl hR.1 rfl rfl hl.1 (Nat.le_of_ble_eq_true rfl) dX4_update_200 ⟨(Nat.le_of_ble_eq_true rfl), (Nat.le_of_ble_eq_true rfl)⟩ (fun r w_42 H locs hp_41 hI hS => ?_)
                          obtain ⟨rfl, rfl⟩ := hp_41
                          refine W.eq (g2 := F0 m 203 ls [.int (itv T9 (sPl S uj) kj), .int (nI kj), .int (sPl S pj), .ref (mH M)]) rfl ?_
                          refine ca_V (As := [.int (sPl S pj), .int (nI kj), .int (itv T9 (sPl S uj) kj)]) (rest := []) (r0 := (RX4, TX4, 11)) (ci := 3) ⟨hx, hb, hml, hown, hts⟩ (cM_put l E A _ (S := T9) (itv T9 (sPl S uj) kj) hrp (by have := hW.2.2.2; omega) (by omega) hR) (cwV 3 hts gX4_update_X4_put rfl rfl rfl (by decide +kernel) ⟨(Nat.le_of_ble_eq_true rfl), (Nat.le_of_ble_eq_true rfl)⟩) hT hI hA hS rfl hR.1 rfl rfl hl.1 (Nat.le_of_ble_eq_true rfl) dX4_update_203 ⟨(Nat.le_of_ble_eq_true rfl), (Nat.le_of_ble_eq_true rfl)⟩ (fun r w_44 H locs hp_43 hI hS => ?_)
                          obtain ⟨rfl, hR⟩ := hp_43
                          refine W.eq (g2 := F0 m 206 ls []) rfl ?_
                          refine lv_iinc (v := nI (t + 1)) (lv' := [(7, .int (nI (t + 1))), (8, .int (nI kj)), (0, .ref (mH M)), (4, .int (sPl S pj)), (5, .int (sPl S qj)), (6, .int (sPl S uj))]) hx hb dX4_update_206 hl (k := 5) rfl (nI_1 _) (by decide) rfl (fun ls hl => ?_)
                          refine lv_goto (tgt := 120) hx hb dX4_update_209 (by decide) ?_
                          refine ih (t + 1, uRow T9 (ix (sPl S pj)) (upd (itv T9 (sPl S pj)) kj (itv T9 (sPl S uj) kj))) _ _ _ ⟨⟨by show t + 1 ≤ lnv S (sPl S qj); omega, ?_, ⟨hrp, hrq, hru⟩, ⟨hkp, hkq, hku⟩, hlen, ?_⟩, ⟨_, hI, hR⟩, hS, lv_sub hl [2, 3, 4, 5, 0] rfl⟩ (by show lnv S (sPl S qj) - (t + 1) < lnv S (sPl S qj) - t; omega)
                          · exact hW.set hrp (fun e9 => by rw [hkp] at e9; exact absurd e9 (by decide)) (fun e9 => by rw [hkp] at e9; exact absurd e9 (by decide))
                          · show upS _ _ _ _ 0 S = upS _ _ _ (lnv S (sPl S qj) - (t + 1)) (t + 1) _
                            rw [hlp]
                            obtain ⟨d9, hd9⟩ : ∃ d9, lnv S (sPl S qj) - t = d9 + 1 := ⟨lnv S (sPl S qj) - t - 1, by omega⟩
                            rw [hd9, show lnv S (sPl S qj) - (t + 1) = d9 by omega]
                            simp only [upS]
                            rw [← hk0, if_neg (fun q9 => q9.elim hw_37 hw_40), ix_nI (show kj < 2 ^ 31 by omega)]
                        · have hw_40 : oI (lnv T9 (sPl S pj)) k0 := Classical.not_not.mp (fun q9 => hw_40 ((in_item (hW.ln (Or.inl hrp))).mpr q9))
                          refine W.eq (g2 := F0 m 179 ls [.int 0]) rfl ?_
                          refine lv_if_ne (tgt := 190) hx hb dX4_update_179 (by decide) (fun c => absurd c (by decide)) (fun _ => ?_)
                          refine lv_aload_n hx hb dX4_update_182 rfl (lv_at hl 1 rfl) ?_
                          refine lv_iconst (v := 3) hx hb dX4_update_183 (by decide) ?_
                          refine wr_put (ci := 3) (C := RX4) (T := TX4) (N := 11) (v := .int 3) (ty := .int) hx hb hts in_X4 tyX4 tyX4_ok nmX4 hown hT hI hS hR.1 rfl 0 (by decide) (hts (.fieldLink RX4 37 "CopyRowsModel" "code" "I") (by decide +kernel)) rfl (by decide +kernel) rfl rfl (Nat.le_of_ble_eq_true rfl) dX4_update_184 (fun H locs hI hS => ?_)
                          have hR := hR.obj (uCod T9 3) rfl rfl rfl rfl rfl rfl
                          refine lv_iload hx hb dX4_update_187 (lv_at hl 5 rfl) ?_
                          exact re_i hx hb hr hlocks hT hA hS hI (PoM.of (by
                                                        unfold sp_update
                                                        try simp only [pv_nI hpj, pv_nI hqj, pv_nI huj]
                                                        rw [if_neg ((fun q => q.elim ho_3 (fun q => q.elim ho_6 ho_9))), if_neg (fun q9 => q9.elim c_10 (fun q9 => q9.elim c_13 c_16)), if_neg (not_not_intro ⟨c_19, c_24, c_29⟩)]
                                                        rw [hlp]
                                                        obtain ⟨d9, hd9⟩ : ∃ d9, lnv S (sPl S qj) - t = d9 + 1 := ⟨lnv S (sPl S qj) - t - 1, by omega⟩
                                                        rw [hd9]
                                                        simp only [upS]
                                                        rw [← hk0, if_pos (Or.inr hw_40)]) hR) (Nat.le_of_ble_eq_true rfl) (Nat.le_of_ble_eq_true rfl) dX4_update_189
                      · have hw_37 : oI (lnv T9 (sPl S uj)) k0 := Classical.not_not.mp (fun q9 => hw_37 ((in_item (hW.ln (Or.inl hru))).mpr q9))
                        refine W.eq (g2 := F0 m 159 ls [.int 0]) rfl ?_
                        refine lv_if_eq (tgt := 182) hx hb dX4_update_159 (by decide) (fun _ => ?_) (fun c => absurd c (by decide))
                        refine lv_aload_n hx hb dX4_update_182 rfl (lv_at hl 1 rfl) ?_
                        refine lv_iconst (v := 3) hx hb dX4_update_183 (by decide) ?_
                        refine wr_put (ci := 3) (C := RX4) (T := TX4) (N := 11) (v := .int 3) (ty := .int) hx hb hts in_X4 tyX4 tyX4_ok nmX4 hown hT hI hS hR.1 rfl 0 (by decide) (hts (.fieldLink RX4 37 "CopyRowsModel" "code" "I") (by decide +kernel)) rfl (by decide +kernel) rfl rfl (Nat.le_of_ble_eq_true rfl) dX4_update_184 (fun H locs hI hS => ?_)
                        have hR := hR.obj (uCod T9 3) rfl rfl rfl rfl rfl rfl
                        refine lv_iload hx hb dX4_update_187 (lv_at hl 5 rfl) ?_
                        exact re_i hx hb hr hlocks hT hA hS hI (PoM.of (by
                                                    unfold sp_update
                                                    try simp only [pv_nI hpj, pv_nI hqj, pv_nI huj]
                                                    rw [if_neg ((fun q => q.elim ho_3 (fun q => q.elim ho_6 ho_9))), if_neg (fun q9 => q9.elim c_10 (fun q9 => q9.elim c_13 c_16)), if_neg (not_not_intro ⟨c_19, c_24, c_29⟩)]
                                                    rw [hlp]
                                                    obtain ⟨d9, hd9⟩ : ∃ d9, lnv S (sPl S qj) - t = d9 + 1 := ⟨lnv S (sPl S qj) - t - 1, by omega⟩
                                                    rw [hd9]
                                                    simp only [upS]
                                                    rw [← hk0, if_pos (Or.inl hw_37)]) hR) (Nat.le_of_ble_eq_true rfl) (Nat.le_of_ble_eq_true rfl) dX4_update_189
                  · refine lv_aload_n hx hb dX4_update_87 rfl (lv_at hl 0 rfl) ?_
                    refine lv_iconst (v := 5) hx hb dX4_update_88 (by decide) ?_
                    refine ca_V (As := [.int 5]) (rest := []) (r0 := (RX4, TX4, 11)) (ci := 3) ⟨hx, hb, hml, hown, hts⟩ (cc_X4_no l E A _ 5 hR) (cwV 1 hts gX4_update_X4_no rfl rfl rfl (by decide +kernel) ⟨(Nat.le_of_ble_eq_true rfl), (Nat.le_of_ble_eq_true rfl)⟩) hT hI hA hS rfl hR.1 rfl rfl hl.1 (Nat.le_of_ble_eq_true rfl) dX4_update_89 ⟨(Nat.le_of_ble_eq_true rfl), (Nat.le_of_ble_eq_true rfl)⟩ (fun r w_48 H locs hp_47 hI hS => ?_)
                    obtain ⟨rfl, hR⟩ := hp_47
                    refine W.eq (g2 := F0 m 92 ls [.int 0]) rfl ?_
                    exact re_i hx hb hr hlocks hT hA hS hI (PoM.of (by
                                            unfold sp_update
                                            try simp only [pv_nI hpj, pv_nI hqj, pv_nI huj]
                                            rw [if_neg ((fun q => q.elim ho_3 (fun q => q.elim ho_6 ho_9))), if_neg (fun q9 => q9.elim c_10 (fun q9 => q9.elim c_13 c_16)), if_pos (fun q9 => c_29 q9.2.2)]) hR) (Nat.le_of_ble_eq_true rfl) (Nat.le_of_ble_eq_true rfl) dX4_update_92
            · refine lv_aload_n hx hb dX4_update_54 rfl (lv_at hl 0 rfl) ?_
              refine lv_iconst (v := 1) hx hb dX4_update_55 (by decide) ?_
              refine ca_V (As := [.int 1]) (rest := []) (r0 := (RX4, TX4, 11)) (ci := 3) ⟨hx, hb, hml, hown, hts⟩ (cc_X4_no l E A _ 1 hR) (cwV 1 hts gX4_update_X4_no rfl rfl rfl (by decide +kernel) ⟨(Nat.le_of_ble_eq_true rfl), (Nat.le_of_ble_eq_true rfl)⟩) hT hI hA hS rfl hR.1 rfl rfl hl.1 (Nat.le_of_ble_eq_true rfl) dX4_update_56 ⟨(Nat.le_of_ble_eq_true rfl), (Nat.le_of_ble_eq_true rfl)⟩ (fun r w_50 H locs hp_49 hI hS => ?_)
              obtain ⟨rfl, hR⟩ := hp_49
              refine W.eq (g2 := F0 m 59 ls [.int 0]) rfl ?_
              exact re_i hx hb hr hlocks hT hA hS hI (PoM.of (by
                                unfold sp_update
                                try simp only [pv_nI hpj, pv_nI hqj, pv_nI huj]
                                rw [if_neg ((fun q => q.elim ho_3 (fun q => q.elim ho_6 ho_9))), if_pos (Or.inr (Or.inr (c_16)))]) hR) (Nat.le_of_ble_eq_true rfl) (Nat.le_of_ble_eq_true rfl) dX4_update_59
      · have ho_9 : oP u := Classical.not_not.mp ho_9
        refine W.eq (g2 := F0 m 18 ls [.int 0]) rfl ?_
        refine lv_if_ne (tgt := 24) hx hb dX4_update_18 (by decide) (fun c => absurd c (by decide)) (fun _ => ?_)
        refine lv_ldc (v := -2000000001) hx hb hown (hts (.constant RX4 54 (-2000000001)) (by decide +kernel)) dX4_update_21 ?_
        exact re_i hx hb hr hlocks hT hA hS hI (PoM.of (by
                    unfold sp_update
                    rw [if_pos (Or.inr (Or.inr (ho_9)))]) hR) (Nat.le_of_ble_eq_true rfl) (Nat.le_of_ble_eq_true rfl) dX4_update_23
    · have ho_6 : oP q := Classical.not_not.mp ho_6
      refine W.eq (g2 := F0 m 11 ls [.int 0]) rfl ?_
      refine lv_if_eq (tgt := 21) hx hb dX4_update_11 (by decide) (fun _ => ?_) (fun c => absurd c (by decide))
      refine lv_ldc (v := -2000000001) hx hb hown (hts (.constant RX4 54 (-2000000001)) (by decide +kernel)) dX4_update_21 ?_
      exact re_i hx hb hr hlocks hT hA hS hI (PoM.of (by
                unfold sp_update
                rw [if_pos (Or.inr (Or.inl ho_6))]) hR) (Nat.le_of_ble_eq_true rfl) (Nat.le_of_ble_eq_true rfl) dX4_update_23
  · have ho_3 : oP p := Classical.not_not.mp ho_3
    refine W.eq (g2 := F0 m 4 ls [.int 0]) rfl ?_
    refine lv_if_eq (tgt := 21) hx hb dX4_update_4 (by decide) (fun _ => ?_) (fun c => absurd c (by decide))
    refine lv_ldc (v := -2000000001) hx hb hown (hts (.constant RX4 54 (-2000000001)) (by decide +kernel)) dX4_update_21 ?_
    exact re_i hx hb hr hlocks hT hA hS hI (PoM.of (by
            unfold sp_update
            rw [if_pos (Or.inl ho_3)]) hR) (Nat.le_of_ble_eq_true rfl) (Nat.le_of_ble_eq_true rfl) dX4_update_23

set_option maxHeartbeats 4000000 in
set_option maxRecDepth 100000 in
theorem cc_X4_loop (l : Launch) (E : En) (A : Nat → Prop) (w : Wd) {S : Sx} {M : Md} {tt : Nat → Int32} (x i y j n : Int32) (hW : Wf S) (hR : Rm E S M tt w) (hb9 : sNr S < 512 ∧ sNt S < 512 ∧ sNl S < 512) : Ct l yX4_loop wsX4_loop ({ frames := 2, cells := 0, slots := 0, locals := 46 } : Room) E A w [.ref (mH M), .int x, .int i, .int y, .int j, .int n] (fun r w' => PoM E M (sp_loop S x i y j n) r w') 0 0 := by
  refine Met.ofW (cc := cX4_loop) (maxL := 11) (ret := (some .int)) (by decide) rfl ?_
  intro pp0 ee0 s m args below meth cc0 s₁ B hml hv
  obtain ⟨rfl, hT, hI, hA⟩ := hv
  have hx := B.exec
  have hb := B.bytes
  have hr := B.returns
  have hts := atoms_spec (ws := wsX4_loop) B.pre
  have hown : s.vm.findClass RX4 = some m.cls := findClass_of_methodNamed B.named
  have hlocks := B.notSynchronized
  have in_X4 : ∀ w ∈ wsX40, w ∈ wsX4_loop := by decide +kernel
  have hS : va_S A s.heap s.heap [] := va_S.rf
  have hl := lv_entry ([.ref (mH M), .int x, .int i, .int y, .int j, .int n]) (n := 11) (Nat.le_of_ble_eq_true rfl)
  rw [lg_entry_eq]
  generalize (lg_sl ([.ref (mH M), .int x, .int i, .int y, .int j, .int n]) ++ List.replicate (11 - (lg_sl ([.ref (mH M), .int x, .int i, .int y, .int j, .int n])).length) Slot.unset).toArray = ls at hl ⊢
  have hl : lv_has ls 11 [(0, .ref (mH M)), (1, .int x), (2, .int i), (3, .int y), (4, .int j), (5, .int n)] := hl
  refine lv_iload_n hx hb dX4_loop_0 rfl (lv_at hl 1 rfl) ?_
  refine ca_S (As := [.int x]) (rest := []) ⟨hx, hb, hml, hown, hts⟩ (cc_X4_isPlace l E A _ x) (va_cwS 1 hts gX4_loop_X4_isPlace rfl rfl rfl (by decide +kernel) ⟨(Nat.le_of_ble_eq_true rfl), (Nat.le_of_ble_eq_true rfl)⟩) hT hI hA hS rfl rfl hl.1 (Nat.le_of_ble_eq_true rfl) dX4_loop_1 ⟨(Nat.le_of_ble_eq_true rfl), (Nat.le_of_ble_eq_true rfl)⟩ (fun r w_2 H locs hp_1 hI hS => ?_)
  obtain ⟨rfl, ⟨ho_3, rfl⟩ | ⟨ho_3, rfl⟩⟩ := hp_1
  · refine W.eq (g2 := F0 m 4 ls [.int 1]) rfl ?_
    refine lv_if_eq (tgt := 14) hx hb dX4_loop_4 (by decide) (fun c => absurd c (by decide)) (fun _ => ?_)
    refine lv_iload_n hx hb dX4_loop_7 rfl (lv_at hl 3 rfl) ?_
    refine ca_S (As := [.int y]) (rest := []) ⟨hx, hb, hml, hown, hts⟩ (cc_X4_isPlace l E A _ y) (va_cwS 1 hts gX4_loop_X4_isPlace rfl rfl rfl (by decide +kernel) ⟨(Nat.le_of_ble_eq_true rfl), (Nat.le_of_ble_eq_true rfl)⟩) hT hI hA hS rfl rfl hl.1 (Nat.le_of_ble_eq_true rfl) dX4_loop_8 ⟨(Nat.le_of_ble_eq_true rfl), (Nat.le_of_ble_eq_true rfl)⟩ (fun r w_5 H locs hp_4 hI hS => ?_)
    obtain ⟨rfl, ⟨ho_6, rfl⟩ | ⟨ho_6, rfl⟩⟩ := hp_4
    · refine W.eq (g2 := F0 m 11 ls [.int 1]) rfl ?_
      refine lv_if_ne (tgt := 17) hx hb dX4_loop_11 (by decide) (fun _ => ?_) (fun c => absurd c (by decide))
      obtain ⟨xj, hxj, rfl⟩ := isP_nat ho_3
      obtain ⟨yj, hyj, rfl⟩ := isP_nat ho_6
      refine lv_aload_n hx hb dX4_loop_17 rfl (lv_at hl 0 rfl) ?_
      refine lv_iload_n hx hb dX4_loop_18 rfl (lv_at hl 1 rfl) ?_
      refine lv_iload_n hx hb dX4_loop_19 rfl (lv_at hl 3 rfl) ?_
      refine ca_V (As := [.int (nI xj), .int (nI yj)]) (rest := []) (r0 := (RX4, TX4, 11)) (ci := 3) ⟨hx, hb, hml, hown, hts⟩ (cc_X4_unlike l E A _ (i9 := xj) (j9 := yj) (by omega) (by omega) hW hR) (cwV 2 hts gX4_loop_X4_unlike rfl rfl rfl (by decide +kernel) ⟨(Nat.le_of_ble_eq_true rfl), (Nat.le_of_ble_eq_true rfl)⟩) hT hI hA hS rfl hR.1 rfl rfl hl.1 (Nat.le_of_ble_eq_true rfl) dX4_loop_20 ⟨(Nat.le_of_ble_eq_true rfl), (Nat.le_of_ble_eq_true rfl)⟩ (fun r w_8 H locs hp_7 hI hS => ?_)
      obtain ⟨rfl, ⟨hul, rfl⟩ | ⟨hul, hm, rfl⟩ | ⟨hul, hm, rfl⟩⟩ := hp_7
      · refine W.eq (g2 := F0 m 23 ls [.int 1]) rfl ?_
        refine lv_istore (lv' := [(6, .int 1), (0, .ref (mH M)), (1, .int (nI xj)), (2, .int i), (3, .int (nI yj)), (4, .int j), (5, .int n)]) hx hb dX4_loop_23 hl (by decide) rfl (fun ls hl => ?_)
        refine lv_iload hx hb dX4_loop_25 (lv_at hl 0 rfl) ?_
        refine lv_if_eq (tgt := 37) hx hb dX4_loop_27 (by decide) (fun c => absurd c (by decide)) (fun _ => ?_)
        refine lv_aload_n hx hb dX4_loop_30 rfl (lv_at hl 1 rfl) ?_
        refine lv_iload hx hb dX4_loop_31 (lv_at hl 0 rfl) ?_
        refine ca_V (As := [.int 1]) (rest := []) (r0 := (RX4, TX4, 11)) (ci := 3) ⟨hx, hb, hml, hown, hts⟩ (cc_X4_no l E A _ 1 hR) (cwV 1 hts gX4_loop_X4_no rfl rfl rfl (by decide +kernel) ⟨(Nat.le_of_ble_eq_true rfl), (Nat.le_of_ble_eq_true rfl)⟩) hT hI hA hS rfl hR.1 rfl rfl hl.1 (Nat.le_of_ble_eq_true rfl) dX4_loop_33 ⟨(Nat.le_of_ble_eq_true rfl), (Nat.le_of_ble_eq_true rfl)⟩ (fun r w_10 H locs hp_9 hI hS => ?_)
        obtain ⟨rfl, hR⟩ := hp_9
        refine W.eq (g2 := F0 m 36 ls [.int 0]) rfl ?_
        exact re_i hx hb hr hlocks hT hA hS hI (PoM.of (by
                    unfold sp_loop
                    try simp only [pv_nI hxj, pv_nI hyj]
                    rw [if_neg ((fun q => q.elim ho_3 ho_6)), if_pos (hul)]) hR) (Nat.le_of_ble_eq_true rfl) (Nat.le_of_ble_eq_true rfl) dX4_loop_36
      · refine W.eq (g2 := F0 m 23 ls [.int 2]) rfl ?_
        refine lv_istore (lv' := [(6, .int 2), (0, .ref (mH M)), (1, .int (nI xj)), (2, .int i), (3, .int (nI yj)), (4, .int j), (5, .int n)]) hx hb dX4_loop_23 hl (by decide) rfl (fun ls hl => ?_)
        refine lv_iload hx hb dX4_loop_25 (lv_at hl 0 rfl) ?_
        refine lv_if_eq (tgt := 37) hx hb dX4_loop_27 (by decide) (fun c => absurd c (by decide)) (fun _ => ?_)
        refine lv_aload_n hx hb dX4_loop_30 rfl (lv_at hl 1 rfl) ?_
        refine lv_iload hx hb dX4_loop_31 (lv_at hl 0 rfl) ?_
        refine ca_V (As := [.int 2]) (rest := []) (r0 := (RX4, TX4, 11)) (ci := 3) ⟨hx, hb, hml, hown, hts⟩ (cc_X4_no l E A _ 2 hR) (cwV 1 hts gX4_loop_X4_no rfl rfl rfl (by decide +kernel) ⟨(Nat.le_of_ble_eq_true rfl), (Nat.le_of_ble_eq_true rfl)⟩) hT hI hA hS rfl hR.1 rfl rfl hl.1 (Nat.le_of_ble_eq_true rfl) dX4_loop_33 ⟨(Nat.le_of_ble_eq_true rfl), (Nat.le_of_ble_eq_true rfl)⟩ (fun r w_12 H locs hp_11 hI hS => ?_)
        obtain ⟨rfl, hR⟩ := hp_11
        refine W.eq (g2 := F0 m 36 ls [.int 0]) rfl ?_
        exact re_i hx hb hr hlocks hT hA hS hI (PoM.of (by
                    unfold sp_loop
                    try simp only [pv_nI hxj, pv_nI hyj]
                    rw [if_neg ((fun q => q.elim ho_3 ho_6)), if_neg (hul), if_pos (hm)]) hR) (Nat.le_of_ble_eq_true rfl) (Nat.le_of_ble_eq_true rfl) dX4_loop_36
      · have hm0 := hm
        have hru : vR S (sPl S xj) := vO_row ((hW.1 xj).resolve_left (fun e9 => hul (Or.inl e9))) (fun e9 => hm.1 (Or.inr e9))
        have hrv : vR S (sPl S yj) := vO_row ((hW.1 yj).resolve_left (fun e9 => hul (Or.inr e9))) (fun e9 => hm.1 (Or.inl e9))
        have hlu := hW.ln (Or.inl hru)
        have hlv := hW.ln (Or.inl hrv)
        refine W.eq (g2 := F0 m 23 ls [.int 0]) rfl ?_
        refine lv_istore (lv' := [(6, .int 0), (0, .ref (mH M)), (1, .int (nI xj)), (2, .int i), (3, .int (nI yj)), (4, .int j), (5, .int n)]) hx hb dX4_loop_23 hl (by decide) rfl (fun ls hl => ?_)
        refine lv_iload hx hb dX4_loop_25 (lv_at hl 0 rfl) ?_
        refine lv_if_eq (tgt := 37) hx hb dX4_loop_27 (by decide) (fun _ => ?_) (fun c => absurd c (by decide))
        refine lv_aload_n hx hb dX4_loop_37 rfl (lv_at hl 1 rfl) ?_
        refine wr_get (ci := 3) (C := RX4) (T := TX4) (N := 11) (v := .ref (mP M)) hx hb hts in_X4 hown hT hI hR.1 rfl 1 (by decide) (hts (.fieldLink RX4 7 "CopyRowsModel" "places" "[I") (by decide +kernel)) rfl dX4_loop_38 ?_
        refine lv_iload_n hx hb dX4_loop_41 rfl (lv_at hl 2 rfl) ?_
        refine wr_ialdN (t := xj) (n := 12) (f := plF S) hx hb hT hI hR.2.1 (by omega) (by omega) dX4_loop_42 ?_
        refine W.eq (g2 := F0 m 43 ls [.int (sPl S xj)]) (by rw [plF_at (by omega)]) ?_
        refine lv_istore (lv' := [(7, .int (sPl S xj)), (6, .int 0), (0, .ref (mH M)), (1, .int (nI xj)), (2, .int i), (3, .int (nI yj)), (4, .int j), (5, .int n)]) hx hb dX4_loop_43 hl (by decide) rfl (fun ls hl => ?_)
        refine lv_aload_n hx hb dX4_loop_45 rfl (lv_at hl 2 rfl) ?_
        refine wr_get (ci := 3) (C := RX4) (T := TX4) (N := 11) (v := .ref (mP M)) hx hb hts in_X4 hown hT hI hR.1 rfl 1 (by decide) (hts (.fieldLink RX4 7 "CopyRowsModel" "places" "[I") (by decide +kernel)) rfl dX4_loop_46 ?_
        refine lv_iload_n hx hb dX4_loop_49 rfl (lv_at hl 5 rfl) ?_
        refine wr_ialdN (t := yj) (n := 12) (f := plF S) hx hb hT hI hR.2.1 (by omega) (by omega) dX4_loop_50 ?_
        refine W.eq (g2 := F0 m 51 ls [.int (sPl S yj)]) (by rw [plF_at (by omega)]) ?_
        refine lv_istore (lv' := [(8, .int (sPl S yj)), (7, .int (sPl S xj)), (6, .int 0), (0, .ref (mH M)), (1, .int (nI xj)), (2, .int i), (3, .int (nI yj)), (4, .int j), (5, .int n)]) hx hb dX4_loop_51 hl (by decide) rfl (fun ls hl => ?_)
        by_cases hn0 : n < 0
        · have hn1 : ¬ 0 ≤ n := Int32.not_le.mpr hn0
          refine lv_iconst (v := 0) hx hb dX4_loop_53 (by decide) ?_
          refine lv_istore (lv' := [(9, .int 0), (8, .int (sPl S yj)), (7, .int (sPl S xj)), (6, .int 0), (0, .ref (mH M)), (1, .int (nI xj)), (2, .int i), (3, .int (nI yj)), (4, .int j), (5, .int n)]) hx hb dX4_loop_54 hl (by decide) rfl (fun ls hl => ?_)
          refine lv_iload hx hb dX4_loop_56 (lv_at hl 0 rfl) ?_
          refine lv_iload hx hb dX4_loop_58 (lv_at hl 9 rfl) ?_
          refine lv_icmp_ge (tgt := 191) hx hb dX4_loop_60 (by decide) (fun c_13 => ?_) (fun c_13 => ?_)
          · refine lv_aload_n hx hb dX4_loop_191 rfl (lv_at hl 4 rfl) ?_
            refine lv_iload hx hb dX4_loop_192 (lv_at hl 9 rfl) ?_
            refine lv_if_ge (tgt := 201) hx hb dX4_loop_194 (by decide) (fun c => absurd c hn1) (fun _ => ?_)
            refine lv_iconst (v := 0) hx hb dX4_loop_197 (by decide) ?_
            refine lv_goto (tgt := 203) hx hb dX4_loop_198 (by decide) ?_
            refine ca_V (As := [.int 0]) (rest := []) (r0 := (RX4, TX4, 11)) (ci := 3) ⟨hx, hb, hml, hown, hts⟩ (cc_X4_yes l E A _ 0 hR) (cwV 1 hts gX4_loop_X4_yes rfl rfl rfl (by decide +kernel) ⟨(Nat.le_of_ble_eq_true rfl), (Nat.le_of_ble_eq_true rfl)⟩) hT hI hA hS rfl hR.1 rfl rfl hl.1 (Nat.le_of_ble_eq_true rfl) dX4_loop_203 ⟨(Nat.le_of_ble_eq_true rfl), (Nat.le_of_ble_eq_true rfl)⟩ (fun r w_15 H locs hp_14 hI hS => ?_)
            obtain ⟨rfl, hR⟩ := hp_14
            refine W.eq (g2 := F0 m 206 ls [.int 0]) rfl ?_
            exact re_i hx hb hr hlocks hT hA hS hI (PoM.of (by
                            unfold sp_loop
                            try simp only [pv_nI hxj, pv_nI hyj]
                            rw [if_neg ((fun q => q.elim ho_3 ho_6)), if_neg (hul), if_neg (not_not_intro hm0)]
                            rw [show ix n = 0 from Int32.toNatClampNeg_eq_zero_iff.mpr (Int32.le_of_lt hn0)]
                            rfl) hR) (Nat.le_of_ble_eq_true rfl) (Nat.le_of_ble_eq_true rfl) dX4_loop_206
          · exact absurd (Int32.le_of_lt hn0) c_13
        · obtain ⟨nn, hnn, rfl⟩ := nI_of hn0
          refine lv_iconst (v := 0) hx hb dX4_loop_53 (by decide) ?_
          refine lv_istore (lv' := [(9, .int 0), (8, .int (sPl S yj)), (7, .int (sPl S xj)), (6, .int 0), (0, .ref (mH M)), (1, .int (nI xj)), (2, .int i), (3, .int (nI yj)), (4, .int j), (5, .int (nI nn))]) hx hb dX4_loop_54 hl (by decide) rfl (fun ls hl => ?_)
          refine lp_w (ι := Nat × Sx) (fun q9 => nn - q9.1) (fun q9 H locs ls => (q9.1 ≤ nn ∧ Wf q9.2 ∧ (vR q9.2 (sPl S xj) ∧ vR q9.2 (sPl S yj) ∧ mayT (kdv q9.2 (sPl S yj)) (kdv q9.2 (sPl S xj))) ∧ lpS (sPl S xj) (sPl S yj) i j nn 0 S = lpS (sPl S xj) (sPl S yj) i j (nn - q9.1) q9.1 q9.2) ∧ (∃ w9, Hv E A w9 H ∧ Rm E q9.2 M tt w9) ∧ va_S A s.heap H locs ∧ lv_has ls 11 [(0, .ref (mH M)), (2, .int i), (4, .int j), (5, .int (nI nn)), (7, .int (sPl S xj)), (8, .int (sPl S yj)), (9, .int (nI q9.1))]) ?_ (0, S) _ _ _ ⟨⟨Nat.zero_le _, hW, ⟨hru, hrv, hm⟩, rfl⟩, ⟨_, hI, hR⟩, hS, lv_sub hl [4, 6, 8, 9, 2, 1, 0] rfl⟩
          rintro ⟨t, T9⟩ H locs ls ⟨⟨ht, hW, ⟨hru, hrv, hm⟩, hlp⟩, ⟨w9, hI, hR⟩, hS, hl⟩ ih
          dsimp only at ht hW hru hrv hm hlp hR hl
          have hlu := hW.ln (Or.inl hru)
          have hlv := hW.ln (Or.inl hrv)
          refine lv_iload hx hb dX4_loop_56 (lv_at hl 6 rfl) ?_
          refine lv_iload hx hb dX4_loop_58 (lv_at hl 3 rfl) ?_
          refine lv_icmp_ge (tgt := 191) hx hb dX4_loop_60 (by decide) (fun c_16 => ?_) (fun c_16 => ?_)
          · have c_16 : nn ≤ t := (nI_leI (a := nn) (b := t) (by omega) (by omega)).mp c_16
            refine lv_aload_n hx hb dX4_loop_191 rfl (lv_at hl 0 rfl) ?_
            refine lv_iload hx hb dX4_loop_192 (lv_at hl 3 rfl) ?_
            refine lv_if_ge (tgt := 201) hx hb dX4_loop_194 (by decide) (fun _ => ?_) (fun c => absurd (Int32.not_lt.mp hn0) c)
            refine lv_iload hx hb dX4_loop_201 (lv_at hl 3 rfl) ?_
            refine ca_V (As := [.int (nI nn)]) (rest := []) (r0 := (RX4, TX4, 11)) (ci := 3) ⟨hx, hb, hml, hown, hts⟩ (cc_X4_yes l E A _ (nI nn) hR) (cwV 1 hts gX4_loop_X4_yes rfl rfl rfl (by decide +kernel) ⟨(Nat.le_of_ble_eq_true rfl), (Nat.le_of_ble_eq_true rfl)⟩) hT hI hA hS rfl hR.1 rfl rfl hl.1 (Nat.le_of_ble_eq_true rfl) dX4_loop_203 ⟨(Nat.le_of_ble_eq_true rfl), (Nat.le_of_ble_eq_true rfl)⟩ (fun r w_18 H locs hp_17 hI hS => ?_)
            obtain ⟨rfl, hR⟩ := hp_17
            refine W.eq (g2 := F0 m 206 ls [.int (nI nn)]) rfl ?_
            exact re_i hx hb hr hlocks hT hA hS hI (PoM.of (by
                            unfold sp_loop
                            try simp only [pv_nI hxj, pv_nI hyj]
                            rw [if_neg ((fun q => q.elim ho_3 ho_6)), if_neg (hul), if_neg (not_not_intro hm0)]
                            rw [ix_nI hnn, hlp, show nn - t = 0 by omega]
                            rw [show t = nn by omega]
                            rfl) hR) (Nat.le_of_ble_eq_true rfl) (Nat.le_of_ble_eq_true rfl) dX4_loop_206
          · have c_16 : ¬ nn ≤ t := fun q => c_16 ((nI_leI (a := nn) (b := t) (by omega) (by omega)).mpr q)
            refine lv_iload_n hx hb dX4_loop_63 rfl (lv_at hl 1 rfl) ?_
            refine lv_i2l (v := i.toInt64) hx hb dX4_loop_64 rfl ?_
            refine lv_iload hx hb dX4_loop_65 (lv_at hl 6 rfl) ?_
            refine lv_i2l (v := (nI t).toInt64) hx hb dX4_loop_67 rfl ?_
            refine lv_ladd hx hb dX4_loop_68 ?_
            refine lv_lconst (v := 0) hx hb dX4_loop_69 (by decide) ?_
            refine lv_aload_n hx hb dX4_loop_70 rfl (lv_at hl 0 rfl) ?_
            refine wr_get (ci := 3) (C := RX4) (T := TX4) (N := 11) (v := .ref (mL M)) hx hb hts in_X4 hown hT hI hR.1 rfl 4 (by decide) (hts (.fieldLink RX4 16 "CopyRowsModel" "lengths" "[I") (by decide +kernel)) rfl dX4_loop_71 ?_
            refine lv_iload hx hb dX4_loop_74 (lv_at hl 4 rfl) ?_
            refine W.eq (g2 := F0 m 76 ls [.int (nI (ix (sPl S xj))), .ref (mL M), .long 0, .long (i.toInt64 + ((nI t).toInt64))]) (by rw [nI_ix hru.1]) ?_
            refine wr_ialdN (t := ix (sPl S xj)) (n := 520) (f := lnF T9) hx hb hT hI hR.2.2.2.1 (by have h9 := hru.2; have h8 := hW.2.2.2; omega) (by omega) dX4_loop_76 ?_
            refine W.eq (g2 := F0 m 77 ls [.int (nI (lnv T9 (sPl S xj))), .long 0, .long (i.toInt64 + ((nI t).toInt64))]) (by rw [lnv_r hru]; rfl) ?_
            refine lv_iconst (v := 1) hx hb dX4_loop_77 (by decide) ?_
            refine lv_isub hx hb dX4_loop_78 ?_
            refine lv_i2l (v := ((nI (lnv T9 (sPl S xj))) - 1).toInt64) hx hb dX4_loop_79 rfl ?_
            refine ca_S (As := [.long (i.toInt64 + ((nI t).toInt64)), .long 0, .long (((nI (lnv T9 (sPl S xj))) - 1).toInt64)]) (rest := []) ⟨hx, hb, hml, hown, hts⟩ (cc_X4_within l E A _ (i.toInt64 + ((nI t).toInt64)) 0 (((nI (lnv T9 (sPl S xj))) - 1).toInt64)) (va_cwS 3 hts gX4_loop_X4_within rfl rfl rfl (by decide +kernel) ⟨(Nat.le_of_ble_eq_true rfl), (Nat.le_of_ble_eq_true rfl)⟩) hT hI hA hS rfl rfl hl.1 (Nat.le_of_ble_eq_true rfl) dX4_loop_80 ⟨(Nat.le_of_ble_eq_true rfl), (Nat.le_of_ble_eq_true rfl)⟩ (fun r w_20 H locs hp_19 hI hS => ?_)
            obtain ⟨rfl, ⟨hw_21, rfl⟩ | ⟨hw_21, rfl⟩⟩ := hp_19
            · have hw_21 : ¬ oI (lnv T9 (sPl S xj)) (i + nI t) := (in_add (i := i) (t := t) (hW.ln (Or.inl hru)) (by omega)).mp hw_21
              refine W.eq (g2 := F0 m 83 ls [.int 1]) rfl ?_
              refine lv_if_eq (tgt := 110) hx hb dX4_loop_83 (by decide) (fun c => absurd c (by decide)) (fun _ => ?_)
              refine lv_iload hx hb dX4_loop_86 (lv_at hl 2 rfl) ?_
              refine lv_i2l (v := j.toInt64) hx hb dX4_loop_88 rfl ?_
              refine lv_iload hx hb dX4_loop_89 (lv_at hl 6 rfl) ?_
              refine lv_i2l (v := (nI t).toInt64) hx hb dX4_loop_91 rfl ?_
              refine lv_ladd hx hb dX4_loop_92 ?_
              refine lv_lconst (v := 0) hx hb dX4_loop_93 (by decide) ?_
              refine lv_aload_n hx hb dX4_loop_94 rfl (lv_at hl 0 rfl) ?_
              refine wr_get (ci := 3) (C := RX4) (T := TX4) (N := 11) (v := .ref (mL M)) hx hb hts in_X4 hown hT hI hR.1 rfl 4 (by decide) (hts (.fieldLink RX4 16 "CopyRowsModel" "lengths" "[I") (by decide +kernel)) rfl dX4_loop_95 ?_
              refine lv_iload hx hb dX4_loop_98 (lv_at hl 5 rfl) ?_
              refine W.eq (g2 := F0 m 100 ls [.int (nI (ix (sPl S yj))), .ref (mL M), .long 0, .long (j.toInt64 + ((nI t).toInt64))]) (by rw [nI_ix hrv.1]) ?_
              refine wr_ialdN (t := ix (sPl S yj)) (n := 520) (f := lnF T9) hx hb hT hI hR.2.2.2.1 (by have h9 := hrv.2; have h8 := hW.2.2.2; omega) (by omega) dX4_loop_100 ?_
              refine W.eq (g2 := F0 m 101 ls [.int (nI (lnv T9 (sPl S yj))), .long 0, .long (j.toInt64 + ((nI t).toInt64))]) (by rw [lnv_r hrv]; rfl) ?_
              refine lv_iconst (v := 1) hx hb dX4_loop_101 (by decide) ?_
              refine lv_isub hx hb dX4_loop_102 ?_
              refine lv_i2l (v := ((nI (lnv T9 (sPl S yj))) - 1).toInt64) hx hb dX4_loop_103 rfl ?_
              refine ca_S (As := [.long (j.toInt64 + ((nI t).toInt64)), .long 0, .long (((nI (lnv T9 (sPl S yj))) - 1).toInt64)]) (rest := []) ⟨hx, hb, hml, hown, hts⟩ (cc_X4_within l E A _ (j.toInt64 + ((nI t).toInt64)) 0 (((nI (lnv T9 (sPl S yj))) - 1).toInt64)) (va_cwS 3 hts gX4_loop_X4_within rfl rfl rfl (by decide +kernel) ⟨(Nat.le_of_ble_eq_true rfl), (Nat.le_of_ble_eq_true rfl)⟩) hT hI hA hS rfl rfl hl.1 (Nat.le_of_ble_eq_true rfl) dX4_loop_104 ⟨(Nat.le_of_ble_eq_true rfl), (Nat.le_of_ble_eq_true rfl)⟩ (fun r w_23 H locs hp_22 hI hS => ?_)
              obtain ⟨rfl, ⟨hw_24, rfl⟩ | ⟨hw_24, rfl⟩⟩ := hp_22
              · have hw_24 : ¬ oI (lnv T9 (sPl S yj)) (j + nI t) := (in_add (i := j) (t := t) (hW.ln (Or.inl hrv)) (by omega)).mp hw_24
                refine W.eq (g2 := F0 m 107 ls [.int 1]) rfl ?_
                refine lv_if_ne (tgt := 118) hx hb dX4_loop_107 (by decide) (fun _ => ?_) (fun c => absurd c (by decide))
                obtain ⟨ij, hij, hie⟩ := oI_nat hlu hw_21
                obtain ⟨jj, hjj, hje⟩ := oI_nat hlv hw_24
                refine lv_aload_n hx hb dX4_loop_118 rfl (lv_at hl 0 rfl) ?_
                refine lv_iload hx hb dX4_loop_119 (lv_at hl 4 rfl) ?_
                refine lv_iload_n hx hb dX4_loop_121 rfl (lv_at hl 1 rfl) ?_
                refine lv_iload hx hb dX4_loop_122 (lv_at hl 6 rfl) ?_
                refine lv_iadd hx hb dX4_loop_124 ?_
                refine W.eq (g2 := F0 m 125 ls [.int (nI ij), .int (sPl S xj), .ref (mH M)]) (by rw [hie]) ?_
                refine ca_V (As := [.int (sPl S xj), .int (nI ij)]) (rest := []) (r0 := (RX4, TX4, 11)) (ci := 3) ⟨hx, hb, hml, hown, hts⟩ (cM_get l E A _ (S := T9) hru (by have := hW.2.2.2; omega) (by omega) hR) (cwV 2 hts gX4_loop_X4_get rfl rfl rfl (by decide +kernel) ⟨(Nat.le_of_ble_eq_true rfl), (Nat.le_of_ble_eq_true rfl)⟩) hT hI hA hS rfl hR.1 rfl rfl hl.1 (Nat.le_of_ble_eq_true rfl) dX4_loop_125 ⟨(Nat.le_of_ble_eq_true rfl), (Nat.le_of_ble_eq_true rfl)⟩ (fun r w_26 H locs hp_25 hI hS => ?_)
                obtain ⟨rfl, rfl⟩ := hp_25
                refine W.eq (g2 := F0 m 128 ls [.int (itv T9 (sPl S xj) ij)]) rfl ?_
                refine lv_istore (lv' := [(10, .int (itv T9 (sPl S xj) ij)), (0, .ref (mH M)), (2, .int i), (4, .int j), (5, .int (nI nn)), (7, .int (sPl S xj)), (8, .int (sPl S yj)), (9, .int (nI t))]) hx hb dX4_loop_128 hl (by decide) rfl (fun ls hl => ?_)
                refine lv_aload_n hx hb dX4_loop_130 rfl (lv_at hl 1 rfl) ?_
                refine wr_get (ci := 3) (C := RX4) (T := TX4) (N := 11) (v := .ref (mK M)) hx hb hts in_X4 hown hT hI hR.1 rfl 3 (by decide) (hts (.fieldLink RX4 13 "CopyRowsModel" "kinds" "[I") (by decide +kernel)) rfl dX4_loop_131 ?_
                refine lv_iload hx hb dX4_loop_134 (lv_at hl 5 rfl) ?_
                refine W.eq (g2 := F0 m 136 ls [.int (nI (ix (sPl S xj))), .ref (mK M)]) (by rw [nI_ix hru.1]) ?_
                refine wr_ialdN (t := ix (sPl S xj)) (n := 520) (f := sKd T9) hx hb hT hI hR.2.2.1 (by have h9 := hru.2; have h8 := hW.2.2.2; omega) (by omega) dX4_loop_136 ?_
                refine W.eq (g2 := F0 m 137 ls [.int (kdv T9 (sPl S xj))]) (by rw [kdv_r hru]) ?_
                refine lv_iconst (v := 2) hx hb dX4_loop_137 (by decide) ?_
                refine lv_icmp_lt (tgt := 172) hx hb dX4_loop_138 (by decide) (fun c_27 => ?_) (fun c_27 => ?_)
                · have hok : isN (kdv T9 (sPl S yj)) ∨ fitS T9 (kdv T9 (sPl S xj)) (itv T9 (sPl S xj) ij) (kdv T9 (sPl S yj)) := Or.inl (may_of hW hru hm c_27)
                  refine lv_aload_n hx hb dX4_loop_172 rfl (lv_at hl 1 rfl) ?_
                  refine lv_iload hx hb dX4_loop_173 (lv_at hl 6 rfl) ?_
                  refine lv_iload hx hb dX4_loop_175 (lv_at hl 3 rfl) ?_
                  refine lv_iload hx hb dX4_loop_177 (lv_at hl 7 rfl) ?_
                  refine lv_iadd hx hb dX4_loop_179 ?_
                  refine W.eq (g2 := F0 m 180 ls [.int (nI jj), .int (sPl S yj), .ref (mH M)]) (by rw [hje]) ?_
                  refine lv_iload hx hb dX4_loop_180 (lv_at hl 0 rfl) ?_
                  refine ca_V (As := [.int (sPl S yj), .int (nI jj), .int (itv T9 (sPl S xj) ij)]) (rest := []) (r0 := (RX4, TX4, 11)) (ci := 3) ⟨hx, hb, hml, hown, hts⟩ (cM_put l E A _ (S := T9) (itv T9 (sPl S xj) ij) hrv (by have := hW.2.2.2; omega) (by omega) hR) (cwV 3 hts gX4_loop_X4_put rfl rfl rfl (by decide +kernel) ⟨(Nat.le_of_ble_eq_true rfl), (Nat.le_of_ble_eq_true rfl)⟩) hT hI hA hS rfl hR.1 rfl rfl hl.1 (Nat.le_of_ble_eq_true rfl) dX4_loop_182 ⟨(Nat.le_of_ble_eq_true rfl), (Nat.le_of_ble_eq_true rfl)⟩ (fun r w_29 H locs hp_28 hI hS => ?_)
                  obtain ⟨rfl, hR⟩ := hp_28
                  refine W.eq (g2 := F0 m 185 ls []) rfl ?_
                  refine lv_iinc (v := nI (t + 1)) (lv' := [(9, .int (nI (t + 1))), (10, .int (itv T9 (sPl S xj) ij)), (0, .ref (mH M)), (2, .int i), (4, .int j), (5, .int (nI nn)), (7, .int (sPl S xj)), (8, .int (sPl S yj))]) hx hb dX4_loop_185 hl (k := 7) rfl (nI_1 _) (by decide) rfl (fun ls hl => ?_)
                  refine lv_goto (tgt := 56) hx hb dX4_loop_188 (by decide) ?_
                  refine ih (t + 1, uRow T9 (ix (sPl S yj)) (upd (itv T9 (sPl S yj)) jj (itv T9 (sPl S xj) ij))) _ _ _ ⟨⟨by show t + 1 ≤ nn; omega, ?_, ⟨hru, hrv, hm⟩, ?_⟩, ⟨_, hI, hR⟩, hS, lv_sub hl [2, 3, 4, 5, 6, 7, 0] rfl⟩ (by show nn - (t + 1) < nn - t; omega)
                  · refine hW.got hru hrv hm (fun k9 => ?_)
                    by_cases hk9 : k9 = jj
                    · exact Or.inr ⟨ij, by simp [upd, hk9], fun h9 => hok.resolve_left h9⟩
                    · exact Or.inl (by simp [upd, hk9])
                  · show lpS _ _ i j nn 0 S = lpS _ _ i j (nn - (t + 1)) (t + 1) _
                    rw [hlp]
                    obtain ⟨d9, hd9⟩ : ∃ d9, nn - t = d9 + 1 := ⟨nn - t - 1, by omega⟩
                    rw [hd9, show nn - (t + 1) = d9 by omega]
                    simp only [lpS]
                    rw [if_neg (fun q9 => q9.elim hw_21 hw_24), hie, hje, ix_nI (show ij < 2 ^ 31 by omega), ix_nI (show jj < 2 ^ 31 by omega), if_neg (not_not_intro hok)]
                · refine lv_aload_n hx hb dX4_loop_141 rfl (lv_at hl 1 rfl) ?_
                  refine lv_aload_n hx hb dX4_loop_142 rfl (lv_at hl 1 rfl) ?_
                  refine wr_get (ci := 3) (C := RX4) (T := TX4) (N := 11) (v := .ref (mK M)) hx hb hts in_X4 hown hT hI hR.1 rfl 3 (by decide) (hts (.fieldLink RX4 13 "CopyRowsModel" "kinds" "[I") (by decide +kernel)) rfl dX4_loop_143 ?_
                  refine lv_iload hx hb dX4_loop_146 (lv_at hl 5 rfl) ?_
                  refine W.eq (g2 := F0 m 148 ls [.int (nI (ix (sPl S xj))), .ref (mK M), .ref (mH M)]) (by rw [nI_ix hru.1]) ?_
                  refine wr_ialdN (t := ix (sPl S xj)) (n := 520) (f := sKd T9) hx hb hT hI hR.2.2.1 (by have h9 := hru.2; have h8 := hW.2.2.2; omega) (by omega) dX4_loop_148 ?_
                  refine W.eq (g2 := F0 m 149 ls [.int (kdv T9 (sPl S xj)), .ref (mH M)]) (by rw [kdv_r hru]) ?_
                  refine lv_iload hx hb dX4_loop_149 (lv_at hl 0 rfl) ?_
                  refine lv_aload_n hx hb dX4_loop_151 rfl (lv_at hl 1 rfl) ?_
                  refine wr_get (ci := 3) (C := RX4) (T := TX4) (N := 11) (v := .ref (mK M)) hx hb hts in_X4 hown hT hI hR.1 rfl 3 (by decide) (hts (.fieldLink RX4 13 "CopyRowsModel" "kinds" "[I") (by decide +kernel)) rfl dX4_loop_152 ?_
                  refine lv_iload hx hb dX4_loop_155 (lv_at hl 6 rfl) ?_
                  refine W.eq (g2 := F0 m 157 ls [.int (nI (ix (sPl S yj))), .ref (mK M), .int (itv T9 (sPl S xj) ij), .int (kdv T9 (sPl S xj)), .ref (mH M)]) (by rw [nI_ix hrv.1]) ?_
                  refine wr_ialdN (t := ix (sPl S yj)) (n := 520) (f := sKd T9) hx hb hT hI hR.2.2.1 (by have h9 := hrv.2; have h8 := hW.2.2.2; omega) (by omega) dX4_loop_157 ?_
                  refine W.eq (g2 := F0 m 158 ls [.int (kdv T9 (sPl S yj)), .int (itv T9 (sPl S xj) ij), .int (kdv T9 (sPl S xj)), .ref (mH M)]) (by rw [kdv_r hrv]) ?_
                  refine ca_V (As := [.int (kdv T9 (sPl S xj)), .int (itv T9 (sPl S xj) ij), .int (kdv T9 (sPl S yj))]) (rest := []) (r0 := (RX4, TX4, 11)) (ci := 3) ⟨hx, hb, hml, hown, hts⟩ (cc_X4_fits l E A _ (kdv T9 (sPl S xj)) (itv T9 (sPl S xj) ij) (kdv T9 (sPl S yj)) (fit_arg hW hru c_27 ij _) hW hR) (cwV 3 hts gX4_loop_X4_fits rfl rfl rfl (by decide +kernel) ⟨(Nat.le_of_ble_eq_true rfl), (Nat.le_of_ble_eq_true rfl)⟩) hT hI hA hS rfl hR.1 rfl rfl hl.1 (Nat.le_of_ble_eq_true rfl) dX4_loop_158 ⟨(Nat.le_of_ble_eq_true rfl), (Nat.le_of_ble_eq_true rfl)⟩ (fun r w_31 H locs hp_30 hI hS => ?_)
                  obtain ⟨rfl, ⟨hf9, rfl⟩ | ⟨hf9, rfl⟩⟩ := hp_30
                  · refine W.eq (g2 := F0 m 161 ls [.int 1]) rfl ?_
                    refine lv_if_ne (tgt := 172) hx hb dX4_loop_161 (by decide) (fun _ => ?_) (fun c => absurd c (by decide))
                    have hok : isN (kdv T9 (sPl S yj)) ∨ fitS T9 (kdv T9 (sPl S xj)) (itv T9 (sPl S xj) ij) (kdv T9 (sPl S yj)) := Or.inr hf9
                    refine lv_aload_n hx hb dX4_loop_172 rfl (lv_at hl 1 rfl) ?_
                    refine lv_iload hx hb dX4_loop_173 (lv_at hl 6 rfl) ?_
                    refine lv_iload hx hb dX4_loop_175 (lv_at hl 3 rfl) ?_
                    refine lv_iload hx hb dX4_loop_177 (lv_at hl 7 rfl) ?_
                    refine lv_iadd hx hb dX4_loop_179 ?_
                    refine W.eq (g2 := F0 m 180 ls [.int (nI jj), .int (sPl S yj), .ref (mH M)]) (by rw [hje]) ?_
                    refine lv_iload hx hb dX4_loop_180 (lv_at hl 0 rfl) ?_
                    refine ca_V (As := [.int (sPl S yj), .int (nI jj), .int (itv T9 (sPl S xj) ij)]) (rest := []) (r0 := (RX4, TX4, 11)) (ci := 3) ⟨hx, hb, hml, hown, hts⟩ (cM_put l E A _ (S := T9) (itv T9 (sPl S xj) ij) hrv (by have := hW.2.2.2; omega) (by omega) hR) (cwV 3 hts gX4_loop_X4_put rfl rfl rfl (by decide +kernel) ⟨(Nat.le_of_ble_eq_true rfl), (Nat.le_of_ble_eq_true rfl)⟩) hT hI hA hS rfl hR.1 rfl rfl hl.1 (Nat.le_of_ble_eq_true rfl) dX4_loop_182 ⟨(Nat.le_of_ble_eq_true rfl), (Nat.le_of_ble_eq_true rfl)⟩ (fun r w_33 H locs hp_32 hI hS => ?_)
                    obtain ⟨rfl, hR⟩ := hp_32
                    refine W.eq (g2 := F0 m 185 ls []) rfl ?_
                    refine lv_iinc (v := nI (t + 1)) (lv' := [(9, .int (nI (t + 1))), (10, .int (itv T9 (sPl S xj) ij)), (0, .ref (mH M)), (2, .int i), (4, .int j), (5, .int (nI nn)), (7, .int (sPl S xj)), (8, .int (sPl S yj))]) hx hb dX4_loop_185 hl (k := 7) rfl (nI_1 _) (by decide) rfl (fun ls hl => ?_)
                    refine lv_goto (tgt := 56) hx hb dX4_loop_188 (by decide) ?_
                    refine ih (t + 1, uRow T9 (ix (sPl S yj)) (upd (itv T9 (sPl S yj)) jj (itv T9 (sPl S xj) ij))) _ _ _ ⟨⟨by show t + 1 ≤ nn; omega, ?_, ⟨hru, hrv, hm⟩, ?_⟩, ⟨_, hI, hR⟩, hS, lv_sub hl [2, 3, 4, 5, 6, 7, 0] rfl⟩ (by show nn - (t + 1) < nn - t; omega)
                    · refine hW.got hru hrv hm (fun k9 => ?_)
                      by_cases hk9 : k9 = jj
                      · exact Or.inr ⟨ij, by simp [upd, hk9], fun h9 => hok.resolve_left h9⟩
                      · exact Or.inl (by simp [upd, hk9])
                    · show lpS _ _ i j nn 0 S = lpS _ _ i j (nn - (t + 1)) (t + 1) _
                      rw [hlp]
                      obtain ⟨d9, hd9⟩ : ∃ d9, nn - t = d9 + 1 := ⟨nn - t - 1, by omega⟩
                      rw [hd9, show nn - (t + 1) = d9 by omega]
                      simp only [lpS]
                      rw [if_neg (fun q9 => q9.elim hw_21 hw_24), hie, hje, ix_nI (show ij < 2 ^ 31 by omega), ix_nI (show jj < 2 ^ 31 by omega), if_neg (not_not_intro hok)]
                  · refine W.eq (g2 := F0 m 161 ls [.int 0]) rfl ?_
                    refine lv_if_ne (tgt := 172) hx hb dX4_loop_161 (by decide) (fun c => absurd c (by decide)) (fun _ => ?_)
                    refine lv_aload_n hx hb dX4_loop_164 rfl (lv_at hl 1 rfl) ?_
                    refine lv_iconst (v := 2) hx hb dX4_loop_165 (by decide) ?_
                    refine wr_put (ci := 3) (C := RX4) (T := TX4) (N := 11) (v := .int 2) (ty := .int) hx hb hts in_X4 tyX4 tyX4_ok nmX4 hown hT hI hS hR.1 rfl 0 (by decide) (hts (.fieldLink RX4 37 "CopyRowsModel" "code" "I") (by decide +kernel)) rfl (by decide +kernel) rfl rfl (Nat.le_of_ble_eq_true rfl) dX4_loop_166 (fun H locs hI hS => ?_)
                    have hR := hR.obj (uCod T9 2) rfl rfl rfl rfl rfl rfl
                    refine lv_iload hx hb dX4_loop_169 (lv_at hl 7 rfl) ?_
                    exact re_i hx hb hr hlocks hT hA hS hI (PoM.of (by
                                            unfold sp_loop
                                            try simp only [pv_nI hxj, pv_nI hyj]
                                            rw [if_neg ((fun q => q.elim ho_3 ho_6)), if_neg (hul), if_neg (not_not_intro hm0)]
                                            rw [ix_nI hnn, hlp]
                                            obtain ⟨d9, hd9⟩ : ∃ d9, nn - t = d9 + 1 := ⟨nn - t - 1, by omega⟩
                                            rw [hd9]
                                            simp only [lpS]
                                            rw [if_neg (fun q9 => q9.elim hw_21 hw_24), hie, ix_nI (show ij < 2 ^ 31 by omega), if_pos (fun q9 => q9.elim (may_not hW hru hm c_27) hf9)]) hR) (Nat.le_of_ble_eq_true rfl) (Nat.le_of_ble_eq_true rfl) dX4_loop_171
              · have hw_24 : oI (lnv T9 (sPl S yj)) (j + nI t) := Classical.not_not.mp (fun q9 => hw_24 ((in_add (i := j) (t := t) (hW.ln (Or.inl hrv)) (by omega)).mpr q9))
                refine W.eq (g2 := F0 m 107 ls [.int 0]) rfl ?_
                refine lv_if_ne (tgt := 118) hx hb dX4_loop_107 (by decide) (fun c => absurd c (by decide)) (fun _ => ?_)
                refine lv_aload_n hx hb dX4_loop_110 rfl (lv_at hl 0 rfl) ?_
                refine lv_iconst (v := 3) hx hb dX4_loop_111 (by decide) ?_
                refine wr_put (ci := 3) (C := RX4) (T := TX4) (N := 11) (v := .int 3) (ty := .int) hx hb hts in_X4 tyX4 tyX4_ok nmX4 hown hT hI hS hR.1 rfl 0 (by decide) (hts (.fieldLink RX4 37 "CopyRowsModel" "code" "I") (by decide +kernel)) rfl (by decide +kernel) rfl rfl (Nat.le_of_ble_eq_true rfl) dX4_loop_112 (fun H locs hI hS => ?_)
                have hR := hR.obj (uCod T9 3) rfl rfl rfl rfl rfl rfl
                refine lv_iload hx hb dX4_loop_115 (lv_at hl 6 rfl) ?_
                exact re_i hx hb hr hlocks hT hA hS hI (PoM.of (by
                                    unfold sp_loop
                                    try simp only [pv_nI hxj, pv_nI hyj]
                                    rw [if_neg ((fun q => q.elim ho_3 ho_6)), if_neg (hul), if_neg (not_not_intro hm0)]
                                    rw [ix_nI hnn, hlp]
                                    obtain ⟨d9, hd9⟩ : ∃ d9, nn - t = d9 + 1 := ⟨nn - t - 1, by omega⟩
                                    rw [hd9]
                                    simp only [lpS]
                                    rw [if_pos (Or.inr hw_24)]) hR) (Nat.le_of_ble_eq_true rfl) (Nat.le_of_ble_eq_true rfl) dX4_loop_117
            · have hw_21 : oI (lnv T9 (sPl S xj)) (i + nI t) := Classical.not_not.mp (fun q9 => hw_21 ((in_add (i := i) (t := t) (hW.ln (Or.inl hru)) (by omega)).mpr q9))
              refine W.eq (g2 := F0 m 83 ls [.int 0]) rfl ?_
              refine lv_if_eq (tgt := 110) hx hb dX4_loop_83 (by decide) (fun _ => ?_) (fun c => absurd c (by decide))
              refine lv_aload_n hx hb dX4_loop_110 rfl (lv_at hl 0 rfl) ?_
              refine lv_iconst (v := 3) hx hb dX4_loop_111 (by decide) ?_
              refine wr_put (ci := 3) (C := RX4) (T := TX4) (N := 11) (v := .int 3) (ty := .int) hx hb hts in_X4 tyX4 tyX4_ok nmX4 hown hT hI hS hR.1 rfl 0 (by decide) (hts (.fieldLink RX4 37 "CopyRowsModel" "code" "I") (by decide +kernel)) rfl (by decide +kernel) rfl rfl (Nat.le_of_ble_eq_true rfl) dX4_loop_112 (fun H locs hI hS => ?_)
              have hR := hR.obj (uCod T9 3) rfl rfl rfl rfl rfl rfl
              refine lv_iload hx hb dX4_loop_115 (lv_at hl 6 rfl) ?_
              exact re_i hx hb hr hlocks hT hA hS hI (PoM.of (by
                                unfold sp_loop
                                try simp only [pv_nI hxj, pv_nI hyj]
                                rw [if_neg ((fun q => q.elim ho_3 ho_6)), if_neg (hul), if_neg (not_not_intro hm0)]
                                rw [ix_nI hnn, hlp]
                                obtain ⟨d9, hd9⟩ : ∃ d9, nn - t = d9 + 1 := ⟨nn - t - 1, by omega⟩
                                rw [hd9]
                                simp only [lpS]
                                rw [if_pos (Or.inl hw_21)]) hR) (Nat.le_of_ble_eq_true rfl) (Nat.le_of_ble_eq_true rfl) dX4_loop_117
    · have ho_6 : oP y := Classical.not_not.mp ho_6
      refine W.eq (g2 := F0 m 11 ls [.int 0]) rfl ?_
      refine lv_if_ne (tgt := 17) hx hb dX4_loop_11 (by decide) (fun c => absurd c (by decide)) (fun _ => ?_)
      refine lv_ldc (v := -2000000001) hx hb hown (hts (.constant RX4 54 (-2000000001)) (by decide +kernel)) dX4_loop_14 ?_
      exact re_i hx hb hr hlocks hT hA hS hI (PoM.of (by
                unfold sp_loop
                rw [if_pos (Or.inr (ho_6))]) hR) (Nat.le_of_ble_eq_true rfl) (Nat.le_of_ble_eq_true rfl) dX4_loop_16
  · have ho_3 : oP x := Classical.not_not.mp ho_3
    refine W.eq (g2 := F0 m 4 ls [.int 0]) rfl ?_
    refine lv_if_eq (tgt := 14) hx hb dX4_loop_4 (by decide) (fun _ => ?_) (fun c => absurd c (by decide))
    refine lv_ldc (v := -2000000001) hx hb hown (hts (.constant RX4 54 (-2000000001)) (by decide +kernel)) dX4_loop_14 ?_
    exact re_i hx hb hr hlocks hT hA hS hI (PoM.of (by
            unfold sp_loop
            rw [if_pos (Or.inl ho_3)]) hR) (Nat.le_of_ble_eq_true rfl) (Nat.le_of_ble_eq_true rfl) dX4_loop_16
