theorem wi01 {S : Sx} {v : Int32} (hv : vO S v) : (vR S v ∧ 0 ≤ kdv S v ∧ kdv S v ≤ 1) ↔ isN (kdv S v) := by
  constructor
  · rintro ⟨-, h1, h2⟩
    have h6 : kdv S v ≤ 6 := by
      rw [Int32.le_iff_toInt_le] at h2 ⊢
      rw [show (1 : Int32).toInt = 1 by decide] at h2
      rw [show (6 : Int32).toInt = 6 by decide]
      omega
    rcases kd_cases h1 h6 with q | q | q | q | q | q | q <;> rw [q] at h2 ⊢ <;> first | exact Or.inl rfl | exact Or.inr rfl | exact absurd h2 (by decide)
  · intro h
    refine ⟨row_of_N hv h, ?_⟩
    rcases h with h | h <;> rw [h] <;> decide
theorem wi35 {S : Sx} (hW : Wf S) {v : Int32} (hv : vO S v) : (vR S v ∧ 3 ≤ kdv S v ∧ kdv S v ≤ 5) ↔ kT (kdv S v) := by
  constructor
  · rintro ⟨-, h1, h2⟩
    rcases kd_cases (hW.kd hv).1 (hW.kd hv).2 with q | q | q | q | q | q | q <;> rw [q] at h1 h2 ⊢ <;> first | decide | exact absurd h1 (by decide) | exact absurd h2 (by decide)
  · intro h
    refine ⟨vO_row hv (by rcases h with h | h | h <;> rw [h] <;> decide), ?_⟩
    rcases h with h | h | h <;> rw [h] <;> decide
theorem wi05 {S : Sx} (hW : Wf S) {v : Int32} (hv : vO S v) : (vR S v ∧ 0 ≤ kdv S v ∧ kdv S v ≤ 5) ↔ ¬ kdv S v = 6 := by
  constructor
  · rintro ⟨h, -⟩
    exact row_kd hW h
  · intro h
    have hr := vO_row hv h
    exact ⟨hr, (hW.row hr).1⟩
theorem kr_iff {k : Int32} : ((0 : Int64) ≤ k.toInt64 ∧ k.toInt64 ≤ 5) ↔ ¬ (k < 0 ∨ 5 < k) := by
  rw [i64_ge0, show (5 : Int64) = lN 5 from rfl, i64_le (by decide), Int32.lt_iff_toInt_lt, Int32.lt_iff_toInt_lt, show (0 : Int32).toInt = 0 by decide, show (5 : Int32).toInt = 5 by decide]
  omega
theorem cr_iff {k : Int32} : ((-1 : Int64) ≤ k.toInt64 ∧ k.toInt64 ≤ 2) ↔ ¬ (k < -1 ∨ ¬ k ≤ 2) := by
  rw [show (2 : Int64) = lN 2 from rfl, i64_le (by decide), Int64.le_iff_toInt_le, Int32.toInt_toInt64, Int32.lt_iff_toInt_lt, Int32.le_iff_toInt_le, m1_toInt, show (2 : Int32).toInt = 2 by decide, show (-1 : Int64).toInt = -1 by decide]
  omega
theorem k06 {k : Int32} (h : ¬ k < 0) (h5 : ¬ 5 < k) : 0 ≤ k ∧ k ≤ 6 := by
  rw [Int32.lt_iff_toInt_lt, show (0 : Int32).toInt = 0 by decide] at h
  rw [Int32.lt_iff_toInt_lt, show (5 : Int32).toInt = 5 by decide] at h5
  rw [Int32.le_iff_toInt_le, Int32.le_iff_toInt_le, show (0 : Int32).toInt = 0 by decide, show (6 : Int32).toInt = 6 by decide]
  omega
theorem Wf.upl {S : Sx} (hW : Wf S) {v : Int32} (hv : v = -1 ∨ vO S v) (j : Nat) : Wf (uPl S j v) := by
  refine ⟨fun p => ?_, hW.2⟩
  by_cases e : p = j
  · subst e
    rw [show sPl (uPl S p v) p = v by simp [sPl, uPl, upd]]
    exact hv
  · rw [show sPl (uPl S j v) p = sPl S p by simp [sPl, uPl, upd, e]]
    exact hW.1 p
theorem kp_m1 {S : Sx} (hW : Wf S) {v : Int32} (hv : v = -1 ∨ vO S v) : kp S v = -1 ↔ v = -1 := by
  constructor
  · intro h
    by_cases e : v = -1
    · exact e
    · rw [kp_ne e] at h
      have := (hW.kd (hv.resolve_left e)).1
      rw [h] at this
      exact absurd this (by decide)
  · intro h; exact if_pos h
set_option maxHeartbeats 4000000 in
set_option maxRecDepth 100000 in
theorem cc_X4_make (l : Launch) (E : En) (A : Nat → Prop) (w : Wd) {S : Sx} {M : Md} {tt : Nat → Int32} (p k n : Int32) (hW : Wf S) (hR : Rm E S M tt w) (hb9 : sNr S < 512 ∧ sNt S < 512 ∧ sNl S < 512) : Ct l yX4_make wsX4_make ({ frames := 2, cells := 0, slots := 0, locals := 46 } : Room) E A w [.ref (mH M), .int p, .int k, .int n] (fun r w' => PoM E M (sp_make S p k n) r w') 0 0 := by
  refine Met.ofW (cc := cX4_make) (maxL := 4) (ret := (some .int)) (by decide) rfl ?_
  intro pp0 ee0 s m args below meth cc0 s₁ B hml hv
  obtain ⟨rfl, hT, hI, hA⟩ := hv
  have hx := B.exec
  have hb := B.bytes
  have hr := B.returns
  have hts := atoms_spec (ws := wsX4_make) B.pre
  have hown : s.vm.findClass RX4 = some m.cls := findClass_of_methodNamed B.named
  have hlocks := B.notSynchronized
  have in_X4 : ∀ w ∈ wsX40, w ∈ wsX4_make := by decide +kernel
  have hS : va_S A s.heap s.heap [] := va_S.rf
  have hl := lv_entry ([.ref (mH M), .int p, .int k, .int n]) (n := 4) (Nat.le_of_ble_eq_true rfl)
  rw [lg_entry_eq]
  generalize (lg_sl ([.ref (mH M), .int p, .int k, .int n]) ++ List.replicate (4 - (lg_sl ([.ref (mH M), .int p, .int k, .int n])).length) Slot.unset).toArray = ls at hl ⊢
  have hl : lv_has ls 4 [(0, .ref (mH M)), (1, .int p), (2, .int k), (3, .int n)] := hl
  refine lv_iload_n hx hb dX4_make_0 rfl (lv_at hl 1 rfl) ?_
  refine ca_S (As := [.int p]) (rest := []) ⟨hx, hb, hml, hown, hts⟩ (cc_X4_isPlace l E A _ p) (va_cwS 1 hts gX4_make_X4_isPlace rfl rfl rfl (by decide +kernel) ⟨(Nat.le_of_ble_eq_true rfl), (Nat.le_of_ble_eq_true rfl)⟩) hT hI hA hS rfl rfl hl.1 (Nat.le_of_ble_eq_true rfl) dX4_make_1 ⟨(Nat.le_of_ble_eq_true rfl), (Nat.le_of_ble_eq_true rfl)⟩ (fun r w_2 H locs hp_1 hI hS => ?_)
  obtain ⟨rfl, ⟨ho_3, rfl⟩ | ⟨ho_3, rfl⟩⟩ := hp_1
  · refine W.eq (g2 := F0 m 4 ls [.int 1]) rfl ?_
    refine lv_if_eq (tgt := 25) hx hb dX4_make_4 (by decide) (fun c => absurd c (by decide)) (fun _ => ?_)
    refine lv_iload_n hx hb dX4_make_7 rfl (lv_at hl 2 rfl) ?_
    refine lv_i2l (v := k.toInt64) hx hb dX4_make_8 rfl ?_
    refine lv_lconst (v := 0) hx hb dX4_make_9 (by decide) ?_
    refine lv_ldc2 (v := 5) hx hb hown (hts (.constantLong RX4 52 (5)) (by decide +kernel)) dX4_make_10 ?_
    refine ca_S (As := [.long k.toInt64, .long 0, .long 5]) (rest := []) ⟨hx, hb, hml, hown, hts⟩ (cc_X4_within l E A _ k.toInt64 0 5) (va_cwS 3 hts gX4_make_X4_within rfl rfl rfl (by decide +kernel) ⟨(Nat.le_of_ble_eq_true rfl), (Nat.le_of_ble_eq_true rfl)⟩) hT hI hA hS rfl rfl hl.1 (Nat.le_of_ble_eq_true rfl) dX4_make_13 ⟨(Nat.le_of_ble_eq_true rfl), (Nat.le_of_ble_eq_true rfl)⟩ (fun r w_5 H locs hp_4 hI hS => ?_)
    obtain ⟨rfl, ⟨hw_6, rfl⟩ | ⟨hw_6, rfl⟩⟩ := hp_4
    · have hw_6 : ¬ (k < 0 ∨ 5 < k) := kr_iff.mp hw_6
      have hw_6a : ¬ k < 0 := fun q9 => hw_6 (Or.inl q9)
      have hw_6b : ¬ 5 < k := fun q9 => hw_6 (Or.inr q9)
      refine W.eq (g2 := F0 m 16 ls [.int 1]) rfl ?_
      refine lv_if_eq (tgt := 25) hx hb dX4_make_16 (by decide) (fun c => absurd c (by decide)) (fun _ => ?_)
      refine lv_iload_n hx hb dX4_make_19 rfl (lv_at hl 3 rfl) ?_
      refine lv_bipush (v := 40) hx hb dX4_make_20 (by decide) ?_
      refine lv_icmp_le (tgt := 28) hx hb dX4_make_22 (by decide) (fun c_7 => ?_) (fun c_7 => ?_)
      · refine lv_iload_n hx hb dX4_make_28 rfl (lv_at hl 3 rfl) ?_
        refine lv_if_ge (tgt := 38) hx hb dX4_make_29 (by decide) (fun c_8 => ?_) (fun c_8 => ?_)
        · obtain ⟨pj, hpj, rfl⟩ := isP_nat ho_3
          obtain ⟨nj, hnj, rfl⟩ := le40_nat c_8 c_7
          refine lv_aload_n hx hb dX4_make_38 rfl (lv_at hl 0 rfl) ?_
          refine wr_get (ci := 3) (C := RX4) (T := TX4) (N := 11) (v := .ref (mP M)) hx hb hts in_X4 hown hT hI hR.1 rfl 1 (by decide) (hts (.fieldLink RX4 7 "CopyRowsModel" "places" "[I") (by decide +kernel)) rfl dX4_make_39 ?_
          refine lv_iload_n hx hb dX4_make_42 rfl (lv_at hl 1 rfl) ?_
          refine lv_aload_n hx hb dX4_make_43 rfl (lv_at hl 0 rfl) ?_
          refine lv_iload_n hx hb dX4_make_44 rfl (lv_at hl 2 rfl) ?_
          refine lv_iload_n hx hb dX4_make_45 rfl (lv_at hl 3 rfl) ?_
          refine ca_V (As := [.int k, .int (nI nj)]) (rest := [.int (nI pj), .ref (mP M)]) (r0 := (RX4, TX4, 11)) (ci := 3) ⟨hx, hb, hml, hown, hts⟩ (cc_X4_newRow l E A _ k nj (lt2 (k06 hw_6a hw_6b)) (by omega) hR) (cwV 2 hts gX4_make_X4_newRow rfl rfl rfl (by decide +kernel) ⟨(Nat.le_of_ble_eq_true rfl), (Nat.le_of_ble_eq_true rfl)⟩) hT hI hA hS rfl hR.1 rfl rfl hl.1 (Nat.le_of_ble_eq_true rfl) dX4_make_46 ⟨(Nat.le_of_ble_eq_true rfl), (Nat.le_of_ble_eq_true rfl)⟩ (fun r w_10 H locs hp_9 hI hS => ?_)
          obtain ⟨rfl, hR⟩ := hp_9
          refine W.eq (g2 := F0 m 49 ls [.int (nI (sNr S)), .int (nI pj), .ref (mP M)]) rfl ?_
          refine wr_iastN (t := pj) (n := 12) (f := plF S) hx hb hT hI hS hR.2.1 (by omega) (by omega) dX4_make_49 (fun H locs hI hS => ?_)
          have hR := hR.pl (j := pj) (by omega) (nI (sNr S))
          refine lv_aload_n hx hb dX4_make_50 rfl (lv_at hl 0 rfl) ?_
          refine lv_iload_n hx hb dX4_make_51 rfl (lv_at hl 3 rfl) ?_
          refine ca_V (As := [.int (nI nj)]) (rest := []) (r0 := (RX4, TX4, 11)) (ci := 3) ⟨hx, hb, hml, hown, hts⟩ (cc_X4_yes l E A _ (nI nj) hR) (cwV 1 hts gX4_make_X4_yes rfl rfl rfl (by decide +kernel) ⟨(Nat.le_of_ble_eq_true rfl), (Nat.le_of_ble_eq_true rfl)⟩) hT hI hA hS rfl hR.1 rfl rfl hl.1 (Nat.le_of_ble_eq_true rfl) dX4_make_52 ⟨(Nat.le_of_ble_eq_true rfl), (Nat.le_of_ble_eq_true rfl)⟩ (fun r w_12 H locs hp_11 hI hS => ?_)
          obtain ⟨rfl, hR⟩ := hp_11
          refine W.eq (g2 := F0 m 55 ls [.int (nI nj)]) rfl ?_
          exact re_i hx hb hr hlocks hT hA hS hI (PoM.of (by
                        unfold sp_make
                        try simp only [pv_nI hpj, ix_nI (show nj < 2 ^ 31 by omega)]
                        rw [if_neg (fun q9 => q9.elim ho_3 (fun q9 => q9.elim hw_6a (fun q9 => q9.elim hw_6b (fun q9 => q9 c_7)))), if_neg ((not_not_intro c_8))]
                        try rw [ix_nI (show pj < 2 ^ 31 by omega)]
                        try rfl) hR) (Nat.le_of_ble_eq_true rfl) (Nat.le_of_ble_eq_true rfl) dX4_make_55
        · refine lv_aload_n hx hb dX4_make_32 rfl (lv_at hl 0 rfl) ?_
          refine lv_iconst (v := 4) hx hb dX4_make_33 (by decide) ?_
          refine ca_V (As := [.int 4]) (rest := []) (r0 := (RX4, TX4, 11)) (ci := 3) ⟨hx, hb, hml, hown, hts⟩ (cc_X4_no l E A _ 4 hR) (cwV 1 hts gX4_make_X4_no rfl rfl rfl (by decide +kernel) ⟨(Nat.le_of_ble_eq_true rfl), (Nat.le_of_ble_eq_true rfl)⟩) hT hI hA hS rfl hR.1 rfl rfl hl.1 (Nat.le_of_ble_eq_true rfl) dX4_make_34 ⟨(Nat.le_of_ble_eq_true rfl), (Nat.le_of_ble_eq_true rfl)⟩ (fun r w_14 H locs hp_13 hI hS => ?_)
          obtain ⟨rfl, hR⟩ := hp_13
          refine W.eq (g2 := F0 m 37 ls [.int 0]) rfl ?_
          exact re_i hx hb hr hlocks hT hA hS hI (PoM.of (by
                        unfold sp_make
                        rw [if_neg (fun q9 => q9.elim ho_3 (fun q9 => q9.elim hw_6a (fun q9 => q9.elim hw_6b (fun q9 => q9 c_7)))), if_pos (c_8)]) hR) (Nat.le_of_ble_eq_true rfl) (Nat.le_of_ble_eq_true rfl) dX4_make_37
      · refine lv_ldc (v := -2000000001) hx hb hown (hts (.constant RX4 54 (-2000000001)) (by decide +kernel)) dX4_make_25 ?_
        exact re_i hx hb hr hlocks hT hA hS hI (PoM.of (by
                    unfold sp_make
                    rw [if_pos (Or.inr (Or.inr (Or.inr c_7)))]) hR) (Nat.le_of_ble_eq_true rfl) (Nat.le_of_ble_eq_true rfl) dX4_make_27
    · have hw_6 : k < 0 ∨ 5 < k := Classical.not_not.mp (fun q9 => hw_6 (kr_iff.mpr q9))
      refine W.eq (g2 := F0 m 16 ls [.int 0]) rfl ?_
      refine lv_if_eq (tgt := 25) hx hb dX4_make_16 (by decide) (fun _ => ?_) (fun c => absurd c (by decide))
      refine lv_ldc (v := -2000000001) hx hb hown (hts (.constant RX4 54 (-2000000001)) (by decide +kernel)) dX4_make_25 ?_
      exact re_i hx hb hr hlocks hT hA hS hI (PoM.of (by
                unfold sp_make
                rw [if_pos (Or.inr (hw_6.elim Or.inl (fun q9 => Or.inr (Or.inl q9))))]) hR) (Nat.le_of_ble_eq_true rfl) (Nat.le_of_ble_eq_true rfl) dX4_make_27
  · have ho_3 : oP p := Classical.not_not.mp ho_3
    refine W.eq (g2 := F0 m 4 ls [.int 0]) rfl ?_
    refine lv_if_eq (tgt := 25) hx hb dX4_make_4 (by decide) (fun _ => ?_) (fun c => absurd c (by decide))
    refine lv_ldc (v := -2000000001) hx hb hown (hts (.constant RX4 54 (-2000000001)) (by decide +kernel)) dX4_make_25 ?_
    exact re_i hx hb hr hlocks hT hA hS hI (PoM.of (by
            unfold sp_make
            rw [if_pos (Or.inl ho_3)]) hR) (Nat.le_of_ble_eq_true rfl) (Nat.le_of_ble_eq_true rfl) dX4_make_27

set_option maxHeartbeats 4000000 in
set_option maxRecDepth 100000 in
theorem cc_X4_share (l : Launch) (E : En) (A : Nat → Prop) (w : Wd) {S : Sx} {M : Md} {tt : Nat → Int32} (p o : Int32) (hW : Wf S) (hR : Rm E S M tt w) (hb9 : sNr S < 512 ∧ sNt S < 512 ∧ sNl S < 512) : Ct l yX4_share wsX4_share ({ frames := 2, cells := 0, slots := 0, locals := 45 } : Room) E A w [.ref (mH M), .int p, .int o] (fun r w' => PoM E M (sp_share S p o) r w') 0 0 := by
  refine Met.ofW (cc := cX4_share) (maxL := 3) (ret := (some .int)) (by decide) rfl ?_
  intro pp0 ee0 s m args below meth cc0 s₁ B hml hv
  obtain ⟨rfl, hT, hI, hA⟩ := hv
  have hx := B.exec
  have hb := B.bytes
  have hr := B.returns
  have hts := atoms_spec (ws := wsX4_share) B.pre
  have hown : s.vm.findClass RX4 = some m.cls := findClass_of_methodNamed B.named
  have hlocks := B.notSynchronized
  have in_X4 : ∀ w ∈ wsX40, w ∈ wsX4_share := by decide +kernel
  have hS : va_S A s.heap s.heap [] := va_S.rf
  have hl := lv_entry ([.ref (mH M), .int p, .int o]) (n := 3) (Nat.le_of_ble_eq_true rfl)
  rw [lg_entry_eq]
  generalize (lg_sl ([.ref (mH M), .int p, .int o]) ++ List.replicate (3 - (lg_sl ([.ref (mH M), .int p, .int o])).length) Slot.unset).toArray = ls at hl ⊢
  have hl : lv_has ls 3 [(0, .ref (mH M)), (1, .int p), (2, .int o)] := hl
  refine lv_iload_n hx hb dX4_share_0 rfl (lv_at hl 1 rfl) ?_
  refine ca_S (As := [.int p]) (rest := []) ⟨hx, hb, hml, hown, hts⟩ (cc_X4_isPlace l E A _ p) (va_cwS 1 hts gX4_share_X4_isPlace rfl rfl rfl (by decide +kernel) ⟨(Nat.le_of_ble_eq_true rfl), (Nat.le_of_ble_eq_true rfl)⟩) hT hI hA hS rfl rfl hl.1 (Nat.le_of_ble_eq_true rfl) dX4_share_1 ⟨(Nat.le_of_ble_eq_true rfl), (Nat.le_of_ble_eq_true rfl)⟩ (fun r w_2 H locs hp_1 hI hS => ?_)
  obtain ⟨rfl, ⟨ho_3, rfl⟩ | ⟨ho_3, rfl⟩⟩ := hp_1
  · refine W.eq (g2 := F0 m 4 ls [.int 1]) rfl ?_
    refine lv_if_eq (tgt := 14) hx hb dX4_share_4 (by decide) (fun c => absurd c (by decide)) (fun _ => ?_)
    refine lv_iload_n hx hb dX4_share_7 rfl (lv_at hl 2 rfl) ?_
    refine ca_S (As := [.int o]) (rest := []) ⟨hx, hb, hml, hown, hts⟩ (cc_X4_isPlace l E A _ o) (va_cwS 1 hts gX4_share_X4_isPlace rfl rfl rfl (by decide +kernel) ⟨(Nat.le_of_ble_eq_true rfl), (Nat.le_of_ble_eq_true rfl)⟩) hT hI hA hS rfl rfl hl.1 (Nat.le_of_ble_eq_true rfl) dX4_share_8 ⟨(Nat.le_of_ble_eq_true rfl), (Nat.le_of_ble_eq_true rfl)⟩ (fun r w_5 H locs hp_4 hI hS => ?_)
    obtain ⟨rfl, ⟨ho_6, rfl⟩ | ⟨ho_6, rfl⟩⟩ := hp_4
    · refine W.eq (g2 := F0 m 11 ls [.int 1]) rfl ?_
      refine lv_if_ne (tgt := 17) hx hb dX4_share_11 (by decide) (fun _ => ?_) (fun c => absurd c (by decide))
      obtain ⟨pj, hpj, rfl⟩ := isP_nat ho_3
      obtain ⟨oj, hoj, rfl⟩ := isP_nat ho_6
      refine lv_aload_n hx hb dX4_share_17 rfl (lv_at hl 0 rfl) ?_
      refine wr_get (ci := 3) (C := RX4) (T := TX4) (N := 11) (v := .ref (mP M)) hx hb hts in_X4 hown hT hI hR.1 rfl 1 (by decide) (hts (.fieldLink RX4 7 "CopyRowsModel" "places" "[I") (by decide +kernel)) rfl dX4_share_18 ?_
      refine lv_iload_n hx hb dX4_share_21 rfl (lv_at hl 1 rfl) ?_
      refine lv_aload_n hx hb dX4_share_22 rfl (lv_at hl 0 rfl) ?_
      refine wr_get (ci := 3) (C := RX4) (T := TX4) (N := 11) (v := .ref (mP M)) hx hb hts in_X4 hown hT hI hR.1 rfl 1 (by decide) (hts (.fieldLink RX4 7 "CopyRowsModel" "places" "[I") (by decide +kernel)) rfl dX4_share_23 ?_
      refine lv_iload_n hx hb dX4_share_26 rfl (lv_at hl 2 rfl) ?_
      refine wr_ialdN (t := oj) (n := 12) (f := plF S) hx hb hT hI hR.2.1 (by omega) (by omega) dX4_share_27 ?_
      refine W.eq (g2 := F0 m 28 ls [.int (sPl S oj), .int (nI pj), .ref (mP M)]) (by rw [plF_at (by omega)]) ?_
      refine wr_iastN (t := pj) (n := 12) (f := plF S) hx hb hT hI hS hR.2.1 (by omega) (by omega) dX4_share_28 (fun H locs hI hS => ?_)
      have hR := hR.pl (j := pj) (by omega) (sPl S oj)
      refine lv_aload_n hx hb dX4_share_29 rfl (lv_at hl 0 rfl) ?_
      refine lv_iload_n hx hb dX4_share_30 rfl (lv_at hl 1 rfl) ?_
      refine ca_V (As := [.int (nI pj)]) (rest := []) (r0 := (RX4, TX4, 11)) (ci := 3) ⟨hx, hb, hml, hown, hts⟩ (cc_X4_kindOf l E A _ (S := uPl S pj (sPl S oj)) (by omega) (hW.upl (hW.1 oj) pj) hR) (cwV 1 hts gX4_share_X4_kindOf rfl rfl rfl (by decide +kernel) ⟨(Nat.le_of_ble_eq_true rfl), (Nat.le_of_ble_eq_true rfl)⟩) hT hI hA hS rfl hR.1 rfl rfl hl.1 (Nat.le_of_ble_eq_true rfl) dX4_share_31 ⟨(Nat.le_of_ble_eq_true rfl), (Nat.le_of_ble_eq_true rfl)⟩ (fun r w_8 H locs hp_7 hI hS => ?_)
      obtain ⟨rfl, rfl⟩ := hp_7
      rw [show sPl (uPl S pj (sPl S oj)) pj = sPl S oj from by simp [sPl, uPl, upd]]
      refine W.eq (g2 := F0 m 34 ls [.int (kp (uPl S pj (sPl S oj)) (sPl S oj))]) rfl ?_
      exact re_i hx hb hr hlocks hT hA hS hI (PoM.of (by
                unfold sp_share
                try simp only [pv_nI hpj, pv_nI hoj]
                rw [if_neg ((fun q => q.elim ho_3 ho_6))]
                try rw [ix_nI (show pj < 2 ^ 31 by omega)]
                try rfl) hR) (Nat.le_of_ble_eq_true rfl) (Nat.le_of_ble_eq_true rfl) dX4_share_34
    · have ho_6 : oP o := Classical.not_not.mp ho_6
      refine W.eq (g2 := F0 m 11 ls [.int 0]) rfl ?_
      refine lv_if_ne (tgt := 17) hx hb dX4_share_11 (by decide) (fun c => absurd c (by decide)) (fun _ => ?_)
      refine lv_ldc (v := -2000000001) hx hb hown (hts (.constant RX4 54 (-2000000001)) (by decide +kernel)) dX4_share_14 ?_
      exact re_i hx hb hr hlocks hT hA hS hI (PoM.of (by
                unfold sp_share
                rw [if_pos (Or.inr (ho_6))]) hR) (Nat.le_of_ble_eq_true rfl) (Nat.le_of_ble_eq_true rfl) dX4_share_16
  · have ho_3 : oP p := Classical.not_not.mp ho_3
    refine W.eq (g2 := F0 m 4 ls [.int 0]) rfl ?_
    refine lv_if_eq (tgt := 14) hx hb dX4_share_4 (by decide) (fun _ => ?_) (fun c => absurd c (by decide))
    refine lv_ldc (v := -2000000001) hx hb hown (hts (.constant RX4 54 (-2000000001)) (by decide +kernel)) dX4_share_14 ?_
    exact re_i hx hb hr hlocks hT hA hS hI (PoM.of (by
            unfold sp_share
            rw [if_pos (Or.inl ho_3)]) hR) (Nat.le_of_ble_eq_true rfl) (Nat.le_of_ble_eq_true rfl) dX4_share_16

set_option maxHeartbeats 4000000 in
set_option maxRecDepth 100000 in
theorem cc_X4_nothing (l : Launch) (E : En) (A : Nat → Prop) (w : Wd) {S : Sx} {M : Md} {tt : Nat → Int32} (p : Int32) (hW : Wf S) (hR : Rm E S M tt w) (hb9 : sNr S < 512 ∧ sNt S < 512 ∧ sNl S < 512) : Ct l yX4_nothing wsX4_nothing ({ frames := 2, cells := 0, slots := 0, locals := 45 } : Room) E A w [.ref (mH M), .int p] (fun r w' => PoM E M (sp_nothing S p) r w') 0 0 := by
  refine Met.ofW (cc := cX4_nothing) (maxL := 3) (ret := (some .int)) (by decide) rfl ?_
  intro pp0 ee0 s m args below meth cc0 s₁ B hml hv
  obtain ⟨rfl, hT, hI, hA⟩ := hv
  have hx := B.exec
  have hb := B.bytes
  have hr := B.returns
  have hts := atoms_spec (ws := wsX4_nothing) B.pre
  have hown : s.vm.findClass RX4 = some m.cls := findClass_of_methodNamed B.named
  have hlocks := B.notSynchronized
  have in_X4 : ∀ w ∈ wsX40, w ∈ wsX4_nothing := by decide +kernel
  have hS : va_S A s.heap s.heap [] := va_S.rf
  have hl := lv_entry ([.ref (mH M), .int p]) (n := 3) (Nat.le_of_ble_eq_true rfl)
  rw [lg_entry_eq]
  generalize (lg_sl ([.ref (mH M), .int p]) ++ List.replicate (3 - (lg_sl ([.ref (mH M), .int p])).length) Slot.unset).toArray = ls at hl ⊢
  have hl : lv_has ls 3 [(0, .ref (mH M)), (1, .int p)] := hl
  refine lv_iload_n hx hb dX4_nothing_0 rfl (lv_at hl 1 rfl) ?_
  refine ca_S (As := [.int p]) (rest := []) ⟨hx, hb, hml, hown, hts⟩ (cc_X4_isPlace l E A _ p) (va_cwS 1 hts gX4_nothing_X4_isPlace rfl rfl rfl (by decide +kernel) ⟨(Nat.le_of_ble_eq_true rfl), (Nat.le_of_ble_eq_true rfl)⟩) hT hI hA hS rfl rfl hl.1 (Nat.le_of_ble_eq_true rfl) dX4_nothing_1 ⟨(Nat.le_of_ble_eq_true rfl), (Nat.le_of_ble_eq_true rfl)⟩ (fun r w_2 H locs hp_1 hI hS => ?_)
  obtain ⟨rfl, ⟨ho_3, rfl⟩ | ⟨ho_3, rfl⟩⟩ := hp_1
  · refine W.eq (g2 := F0 m 4 ls [.int 1]) rfl ?_
    refine lv_if_ne (tgt := 10) hx hb dX4_nothing_4 (by decide) (fun _ => ?_) (fun c => absurd c (by decide))
    obtain ⟨pj, hpj, rfl⟩ := isP_nat ho_3
    refine lv_aload_n hx hb dX4_nothing_10 rfl (lv_at hl 0 rfl) ?_
    refine lv_iload_n hx hb dX4_nothing_11 rfl (lv_at hl 1 rfl) ?_
    refine ca_V (As := [.int (nI pj)]) (rest := []) (r0 := (RX4, TX4, 11)) (ci := 3) ⟨hx, hb, hml, hown, hts⟩ (cc_X4_kindOf l E A _ (by omega) hW hR) (cwV 1 hts gX4_nothing_X4_kindOf rfl rfl rfl (by decide +kernel) ⟨(Nat.le_of_ble_eq_true rfl), (Nat.le_of_ble_eq_true rfl)⟩) hT hI hA hS rfl hR.1 rfl rfl hl.1 (Nat.le_of_ble_eq_true rfl) dX4_nothing_12 ⟨(Nat.le_of_ble_eq_true rfl), (Nat.le_of_ble_eq_true rfl)⟩ (fun r w_5 H locs hp_4 hI hS => ?_)
    obtain ⟨rfl, rfl⟩ := hp_4
    refine W.eq (g2 := F0 m 15 ls [.int (kp S (sPl S pj))]) rfl ?_
    refine lv_istore_n (lv' := [(2, .int (kp S (sPl S pj))), (0, .ref (mH M)), (1, .int (nI pj))]) hx hb dX4_nothing_15 rfl hl (by decide) rfl (fun ls hl => ?_)
    refine lv_aload_n hx hb dX4_nothing_16 rfl (lv_at hl 1 rfl) ?_
    refine wr_get (ci := 3) (C := RX4) (T := TX4) (N := 11) (v := .ref (mP M)) hx hb hts in_X4 hown hT hI hR.1 rfl 1 (by decide) (hts (.fieldLink RX4 7 "CopyRowsModel" "places" "[I") (by decide +kernel)) rfl dX4_nothing_17 ?_
    refine lv_iload_n hx hb dX4_nothing_20 rfl (lv_at hl 2 rfl) ?_
    refine lv_iconst (v := -1) hx hb dX4_nothing_21 (by decide) ?_
    refine wr_iastN (t := pj) (n := 12) (f := plF S) hx hb hT hI hS hR.2.1 (by omega) (by omega) dX4_nothing_22 (fun H locs hI hS => ?_)
    have hR := hR.pl (j := pj) (by omega) (-1)
    refine lv_iload_n hx hb dX4_nothing_23 rfl (lv_at hl 0 rfl) ?_
    exact re_i hx hb hr hlocks hT hA hS hI (PoM.of (by
            unfold sp_nothing
            try simp only [pv_nI hpj]
            rw [if_neg (ho_3)]
            try rw [ix_nI (show pj < 2 ^ 31 by omega)]
            try rfl) hR) (Nat.le_of_ble_eq_true rfl) (Nat.le_of_ble_eq_true rfl) dX4_nothing_24
  · have ho_3 : oP p := Classical.not_not.mp ho_3
    refine W.eq (g2 := F0 m 4 ls [.int 0]) rfl ?_
    refine lv_if_ne (tgt := 10) hx hb dX4_nothing_4 (by decide) (fun c => absurd c (by decide)) (fun _ => ?_)
    refine lv_ldc (v := -2000000001) hx hb hown (hts (.constant RX4 54 (-2000000001)) (by decide +kernel)) dX4_nothing_7 ?_
    exact re_i hx hb hr hlocks hT hA hS hI (PoM.of (by
            unfold sp_nothing
            rw [if_pos (ho_3)]) hR) (Nat.le_of_ble_eq_true rfl) (Nat.le_of_ble_eq_true rfl) dX4_nothing_9

set_option maxHeartbeats 4000000 in
set_option maxRecDepth 100000 in
theorem cc_X4_lump (l : Launch) (E : En) (A : Nat → Prop) (w : Wd) {S : Sx} {M : Md} {tt : Nat → Int32} (p : Int32) (hW : Wf S) (hR : Rm E S M tt w) (hb9 : sNr S < 512 ∧ sNt S < 512 ∧ sNl S < 512) : Ct l yX4_lump wsX4_lump ({ frames := 2, cells := 0, slots := 0, locals := 45 } : Room) E A w [.ref (mH M), .int p] (fun r w' => PoM E M (sp_lump S p) r w') 0 0 := by
  refine Met.ofW (cc := cX4_lump) (maxL := 2) (ret := (some .int)) (by decide) rfl ?_
  intro pp0 ee0 s m args below meth cc0 s₁ B hml hv
  obtain ⟨rfl, hT, hI, hA⟩ := hv
  have hx := B.exec
  have hb := B.bytes
  have hr := B.returns
  have hts := atoms_spec (ws := wsX4_lump) B.pre
  have hown : s.vm.findClass RX4 = some m.cls := findClass_of_methodNamed B.named
  have hlocks := B.notSynchronized
  have in_X4 : ∀ w ∈ wsX40, w ∈ wsX4_lump := by decide +kernel
  have hS : va_S A s.heap s.heap [] := va_S.rf
  have hl := lv_entry ([.ref (mH M), .int p]) (n := 2) (Nat.le_of_ble_eq_true rfl)
  rw [lg_entry_eq]
  generalize (lg_sl ([.ref (mH M), .int p]) ++ List.replicate (2 - (lg_sl ([.ref (mH M), .int p])).length) Slot.unset).toArray = ls at hl ⊢
  have hl : lv_has ls 2 [(0, .ref (mH M)), (1, .int p)] := hl
  refine lv_iload_n hx hb dX4_lump_0 rfl (lv_at hl 1 rfl) ?_
  refine ca_S (As := [.int p]) (rest := []) ⟨hx, hb, hml, hown, hts⟩ (cc_X4_isPlace l E A _ p) (va_cwS 1 hts gX4_lump_X4_isPlace rfl rfl rfl (by decide +kernel) ⟨(Nat.le_of_ble_eq_true rfl), (Nat.le_of_ble_eq_true rfl)⟩) hT hI hA hS rfl rfl hl.1 (Nat.le_of_ble_eq_true rfl) dX4_lump_1 ⟨(Nat.le_of_ble_eq_true rfl), (Nat.le_of_ble_eq_true rfl)⟩ (fun r w_2 H locs hp_1 hI hS => ?_)
  obtain ⟨rfl, ⟨ho_3, rfl⟩ | ⟨ho_3, rfl⟩⟩ := hp_1
  · refine W.eq (g2 := F0 m 4 ls [.int 1]) rfl ?_
    refine lv_if_ne (tgt := 10) hx hb dX4_lump_4 (by decide) (fun _ => ?_) (fun c => absurd c (by decide))
    obtain ⟨pj, hpj, rfl⟩ := isP_nat ho_3
    refine lv_aload_n hx hb dX4_lump_10 rfl (lv_at hl 0 rfl) ?_
    refine lv_dup hx hb dX4_lump_11 rfl ?_
    refine wr_get (ci := 3) (C := RX4) (T := TX4) (N := 11) (v := .int (nI (sNl S))) hx hb hts in_X4 hown hT hI hR.1 rfl 9 (by decide) (hts (.fieldLink RX4 69 "CopyRowsModel" "lumps" "I") (by decide +kernel)) rfl dX4_lump_12 ?_
    refine lv_iconst (v := 1) hx hb dX4_lump_15 (by decide) ?_
    refine lv_iadd hx hb dX4_lump_16 ?_
    refine W.eq (g2 := F0 m 17 ls [.int (nI ((sNl S) + 1)), .ref (mH M)]) (by rw [show (nI (sNl S) : Int32) + 1 = nI ((sNl S) + 1) from nI_add (sNl S) 1]) ?_
    refine wr_put (ci := 3) (C := RX4) (T := TX4) (N := 11) (v := .int (nI ((sNl S) + 1))) (ty := .int) hx hb hts in_X4 tyX4 tyX4_ok nmX4 hown hT hI hS hR.1 rfl 9 (by decide) (hts (.fieldLink RX4 69 "CopyRowsModel" "lumps" "I") (by decide +kernel)) rfl (by decide +kernel) rfl rfl (Nat.le_of_ble_eq_true rfl) dX4_lump_17 (fun H locs hI hS => ?_)
    have hR := hR.obj (uNl S ((sNl S) + 1)) rfl rfl rfl rfl rfl rfl
    refine lv_aload_n hx hb dX4_lump_20 rfl (lv_at hl 0 rfl) ?_
    refine wr_get (ci := 3) (C := RX4) (T := TX4) (N := 11) (v := .ref (mP M)) hx hb hts in_X4 hown hT hI hR.1 rfl 1 (by decide) (hts (.fieldLink RX4 7 "CopyRowsModel" "places" "[I") (by decide +kernel)) rfl dX4_lump_21 ?_
    refine lv_iload_n hx hb dX4_lump_24 rfl (lv_at hl 1 rfl) ?_
    refine lv_iconst (v := -1) hx hb dX4_lump_25 (by decide) ?_
    refine lv_aload_n hx hb dX4_lump_26 rfl (lv_at hl 0 rfl) ?_
    refine wr_get (ci := 3) (C := RX4) (T := TX4) (N := 11) (v := .int (nI ((sNl S) + 1))) hx hb hts in_X4 hown hT hI hR.1 rfl 9 (by decide) (hts (.fieldLink RX4 69 "CopyRowsModel" "lumps" "I") (by decide +kernel)) rfl dX4_lump_27 ?_
    refine lv_isub hx hb dX4_lump_30 ?_
    refine wr_iastN (t := pj) (n := 12) (f := plF S) hx hb hT hI hS hR.2.1 (by omega) (by omega) dX4_lump_31 (fun H locs hI hS => ?_)
    have hR := hR.pl (j := pj) (by omega) ((-1) - (nI ((sNl S) + 1)))
    refine lv_iconst (v := 1) hx hb dX4_lump_32 (by decide) ?_
    exact re_i hx hb hr hlocks hT hA hS hI (PoM.of (by
            unfold sp_lump
            try simp only [pv_nI hpj]
            rw [if_neg (ho_3)]
            try rw [ix_nI (show pj < 2 ^ 31 by omega)]
            try rfl) hR) (Nat.le_of_ble_eq_true rfl) (Nat.le_of_ble_eq_true rfl) dX4_lump_33
  · have ho_3 : oP p := Classical.not_not.mp ho_3
    refine W.eq (g2 := F0 m 4 ls [.int 0]) rfl ?_
    refine lv_if_ne (tgt := 10) hx hb dX4_lump_4 (by decide) (fun c => absurd c (by decide)) (fun _ => ?_)
    refine lv_ldc (v := -2000000001) hx hb hown (hts (.constant RX4 54 (-2000000001)) (by decide +kernel)) dX4_lump_7 ?_
    exact re_i hx hb hr hlocks hT hA hS hI (PoM.of (by
            unfold sp_lump
            rw [if_pos (ho_3)]) hR) (Nat.le_of_ble_eq_true rfl) (Nat.le_of_ble_eq_true rfl) dX4_lump_9

set_option maxHeartbeats 4000000 in
set_option maxRecDepth 100000 in
theorem cc_X4_kind (l : Launch) (E : En) (A : Nat → Prop) (w : Wd) {S : Sx} {M : Md} {tt : Nat → Int32} (p : Int32) (hW : Wf S) (hR : Rm E S M tt w) (hb9 : sNr S < 512 ∧ sNt S < 512 ∧ sNl S < 512) : Ct l yX4_kind wsX4_kind ({ frames := 2, cells := 0, slots := 0, locals := 45 } : Room) E A w [.ref (mH M), .int p] (fun r w' => PoM E M (sp_kind S p) r w') 0 0 := by
  refine Met.ofW (cc := cX4_kind) (maxL := 2) (ret := (some .int)) (by decide) rfl ?_
  intro pp0 ee0 s m args below meth cc0 s₁ B hml hv
  obtain ⟨rfl, hT, hI, hA⟩ := hv
  have hx := B.exec
  have hb := B.bytes
  have hr := B.returns
  have hts := atoms_spec (ws := wsX4_kind) B.pre
  have hown : s.vm.findClass RX4 = some m.cls := findClass_of_methodNamed B.named
  have hlocks := B.notSynchronized
  have hS : va_S A s.heap s.heap [] := va_S.rf
  have hl := lv_entry ([.ref (mH M), .int p]) (n := 2) (Nat.le_of_ble_eq_true rfl)
  rw [lg_entry_eq]
  generalize (lg_sl ([.ref (mH M), .int p]) ++ List.replicate (2 - (lg_sl ([.ref (mH M), .int p])).length) Slot.unset).toArray = ls at hl ⊢
  have hl : lv_has ls 2 [(0, .ref (mH M)), (1, .int p)] := hl
  refine lv_iload_n hx hb dX4_kind_0 rfl (lv_at hl 1 rfl) ?_
  refine ca_S (As := [.int p]) (rest := []) ⟨hx, hb, hml, hown, hts⟩ (cc_X4_isPlace l E A _ p) (va_cwS 1 hts gX4_kind_X4_isPlace rfl rfl rfl (by decide +kernel) ⟨(Nat.le_of_ble_eq_true rfl), (Nat.le_of_ble_eq_true rfl)⟩) hT hI hA hS rfl rfl hl.1 (Nat.le_of_ble_eq_true rfl) dX4_kind_1 ⟨(Nat.le_of_ble_eq_true rfl), (Nat.le_of_ble_eq_true rfl)⟩ (fun r w_2 H locs hp_1 hI hS => ?_)
  obtain ⟨rfl, ⟨ho_3, rfl⟩ | ⟨ho_3, rfl⟩⟩ := hp_1
  · refine W.eq (g2 := F0 m 4 ls [.int 1]) rfl ?_
    refine lv_if_eq (tgt := 15) hx hb dX4_kind_4 (by decide) (fun c => absurd c (by decide)) (fun _ => ?_)
    obtain ⟨pj, hpj, rfl⟩ := isP_nat ho_3
    refine lv_aload_n hx hb dX4_kind_7 rfl (lv_at hl 0 rfl) ?_
    refine lv_iload_n hx hb dX4_kind_8 rfl (lv_at hl 1 rfl) ?_
    refine ca_V (As := [.int (nI pj)]) (rest := []) (r0 := (RX4, TX4, 11)) (ci := 3) ⟨hx, hb, hml, hown, hts⟩ (cc_X4_kindOf l E A _ (by omega) hW hR) (cwV 1 hts gX4_kind_X4_kindOf rfl rfl rfl (by decide +kernel) ⟨(Nat.le_of_ble_eq_true rfl), (Nat.le_of_ble_eq_true rfl)⟩) hT hI hA hS rfl hR.1 rfl rfl hl.1 (Nat.le_of_ble_eq_true rfl) dX4_kind_9 ⟨(Nat.le_of_ble_eq_true rfl), (Nat.le_of_ble_eq_true rfl)⟩ (fun r w_5 H locs hp_4 hI hS => ?_)
    obtain ⟨rfl, rfl⟩ := hp_4
    refine W.eq (g2 := F0 m 12 ls [.int (kp S (sPl S pj))]) rfl ?_
    refine lv_goto (tgt := 17) hx hb dX4_kind_12 (by decide) ?_
    exact re_i hx hb hr hlocks hT hA hS hI (PoM.of (by
            unfold sp_kind
            try simp only [pv_nI hpj]
            rw [if_neg (ho_3)]
            try rfl) hR) (Nat.le_of_ble_eq_true rfl) (Nat.le_of_ble_eq_true rfl) dX4_kind_17
  · have ho_3 : oP p := Classical.not_not.mp ho_3
    refine W.eq (g2 := F0 m 4 ls [.int 0]) rfl ?_
    refine lv_if_eq (tgt := 15) hx hb dX4_kind_4 (by decide) (fun _ => ?_) (fun c => absurd c (by decide))
    refine lv_ldc (v := -2000000001) hx hb hown (hts (.constant RX4 54 (-2000000001)) (by decide +kernel)) dX4_kind_15 ?_
    exact re_i hx hb hr hlocks hT hA hS hI (PoM.of (by
            unfold sp_kind
            rw [if_pos (ho_3)]
            try rfl) hR) (Nat.le_of_ble_eq_true rfl) (Nat.le_of_ble_eq_true rfl) dX4_kind_17

set_option maxHeartbeats 4000000 in
set_option maxRecDepth 100000 in
theorem cc_X4_length (l : Launch) (E : En) (A : Nat → Prop) (w : Wd) {S : Sx} {M : Md} {tt : Nat → Int32} (p : Int32) (hW : Wf S) (hR : Rm E S M tt w) (hb9 : sNr S < 512 ∧ sNt S < 512 ∧ sNl S < 512) : Ct l yX4_length wsX4_length ({ frames := 2, cells := 0, slots := 0, locals := 45 } : Room) E A w [.ref (mH M), .int p] (fun r w' => PoM E M (sp_length S p) r w') 0 0 := by
  refine Met.ofW (cc := cX4_length) (maxL := 3) (ret := (some .int)) (by decide) rfl ?_
  intro pp0 ee0 s m args below meth cc0 s₁ B hml hv
  obtain ⟨rfl, hT, hI, hA⟩ := hv
  have hx := B.exec
  have hb := B.bytes
  have hr := B.returns
  have hts := atoms_spec (ws := wsX4_length) B.pre
  have hown : s.vm.findClass RX4 = some m.cls := findClass_of_methodNamed B.named
  have hlocks := B.notSynchronized
  have hS : va_S A s.heap s.heap [] := va_S.rf
  have hl := lv_entry ([.ref (mH M), .int p]) (n := 3) (Nat.le_of_ble_eq_true rfl)
  rw [lg_entry_eq]
  generalize (lg_sl ([.ref (mH M), .int p]) ++ List.replicate (3 - (lg_sl ([.ref (mH M), .int p])).length) Slot.unset).toArray = ls at hl ⊢
  have hl : lv_has ls 3 [(0, .ref (mH M)), (1, .int p)] := hl
  refine lv_iload_n hx hb dX4_length_0 rfl (lv_at hl 1 rfl) ?_
  refine ca_S (As := [.int p]) (rest := []) ⟨hx, hb, hml, hown, hts⟩ (cc_X4_isPlace l E A _ p) (va_cwS 1 hts gX4_length_X4_isPlace rfl rfl rfl (by decide +kernel) ⟨(Nat.le_of_ble_eq_true rfl), (Nat.le_of_ble_eq_true rfl)⟩) hT hI hA hS rfl rfl hl.1 (Nat.le_of_ble_eq_true rfl) dX4_length_1 ⟨(Nat.le_of_ble_eq_true rfl), (Nat.le_of_ble_eq_true rfl)⟩ (fun r w_2 H locs hp_1 hI hS => ?_)
  obtain ⟨rfl, ⟨ho_3, rfl⟩ | ⟨ho_3, rfl⟩⟩ := hp_1
  · refine W.eq (g2 := F0 m 4 ls [.int 1]) rfl ?_
    refine lv_if_ne (tgt := 10) hx hb dX4_length_4 (by decide) (fun _ => ?_) (fun c => absurd c (by decide))
    obtain ⟨pj, hpj, rfl⟩ := isP_nat ho_3
    refine lv_aload_n hx hb dX4_length_10 rfl (lv_at hl 0 rfl) ?_
    refine lv_iload_n hx hb dX4_length_11 rfl (lv_at hl 1 rfl) ?_
    refine ca_V (As := [.int (nI pj)]) (rest := []) (r0 := (RX4, TX4, 11)) (ci := 3) ⟨hx, hb, hml, hown, hts⟩ (cc_X4_wantsRow l E A _ (by omega) hW hR) (cwV 1 hts gX4_length_X4_wantsRow rfl rfl rfl (by decide +kernel) ⟨(Nat.le_of_ble_eq_true rfl), (Nat.le_of_ble_eq_true rfl)⟩) hT hI hA hS rfl hR.1 rfl rfl hl.1 (Nat.le_of_ble_eq_true rfl) dX4_length_12 ⟨(Nat.le_of_ble_eq_true rfl), (Nat.le_of_ble_eq_true rfl)⟩ (fun r w_5 H locs hp_4 hI hS => ?_)
    obtain ⟨rfl, ⟨ez6, rfl⟩ | ⟨ez6, e66, rfl⟩ | ⟨ez6, hr6, rfl⟩⟩ := hp_4
    · refine W.eq (g2 := F0 m 15 ls [.int 1]) rfl ?_
      refine lv_istore_n (lv' := [(2, .int 1), (0, .ref (mH M)), (1, .int (nI pj))]) hx hb dX4_length_15 rfl hl (by decide) rfl (fun ls hl => ?_)
      refine lv_iload_n hx hb dX4_length_16 rfl (lv_at hl 0 rfl) ?_
      refine lv_if_eq (tgt := 28) hx hb dX4_length_17 (by decide) (fun c => absurd c (by decide)) (fun _ => ?_)
      refine lv_aload_n hx hb dX4_length_20 rfl (lv_at hl 1 rfl) ?_
      refine lv_iload_n hx hb dX4_length_21 rfl (lv_at hl 0 rfl) ?_
      refine ca_V (As := [.int 1]) (rest := []) (r0 := (RX4, TX4, 11)) (ci := 3) ⟨hx, hb, hml, hown, hts⟩ (cc_X4_no l E A _ 1 hR) (cwV 1 hts gX4_length_X4_no rfl rfl rfl (by decide +kernel) ⟨(Nat.le_of_ble_eq_true rfl), (Nat.le_of_ble_eq_true rfl)⟩) hT hI hA hS rfl hR.1 rfl rfl hl.1 (Nat.le_of_ble_eq_true rfl) dX4_length_22 ⟨(Nat.le_of_ble_eq_true rfl), (Nat.le_of_ble_eq_true rfl)⟩ (fun r w_8 H locs hp_7 hI hS => ?_)
      obtain ⟨rfl, hR⟩ := hp_7
      refine W.eq (g2 := F0 m 25 ls [.int 0]) rfl ?_
      refine lv_goto (tgt := 37) hx hb dX4_length_25 (by decide) ?_
      exact re_i hx hb hr hlocks hT hA hS hI (PoM.of (by
                unfold sp_length
                try simp only [pv_nI hpj]
                rw [if_neg (ho_3), if_pos (ez6)]
                try rfl) hR) (Nat.le_of_ble_eq_true rfl) (Nat.le_of_ble_eq_true rfl) dX4_length_37
    · refine W.eq (g2 := F0 m 15 ls [.int 5]) rfl ?_
      refine lv_istore_n (lv' := [(2, .int 5), (0, .ref (mH M)), (1, .int (nI pj))]) hx hb dX4_length_15 rfl hl (by decide) rfl (fun ls hl => ?_)
      refine lv_iload_n hx hb dX4_length_16 rfl (lv_at hl 0 rfl) ?_
      refine lv_if_eq (tgt := 28) hx hb dX4_length_17 (by decide) (fun c => absurd c (by decide)) (fun _ => ?_)
      refine lv_aload_n hx hb dX4_length_20 rfl (lv_at hl 1 rfl) ?_
      refine lv_iload_n hx hb dX4_length_21 rfl (lv_at hl 0 rfl) ?_
      refine ca_V (As := [.int 5]) (rest := []) (r0 := (RX4, TX4, 11)) (ci := 3) ⟨hx, hb, hml, hown, hts⟩ (cc_X4_no l E A _ 5 hR) (cwV 1 hts gX4_length_X4_no rfl rfl rfl (by decide +kernel) ⟨(Nat.le_of_ble_eq_true rfl), (Nat.le_of_ble_eq_true rfl)⟩) hT hI hA hS rfl hR.1 rfl rfl hl.1 (Nat.le_of_ble_eq_true rfl) dX4_length_22 ⟨(Nat.le_of_ble_eq_true rfl), (Nat.le_of_ble_eq_true rfl)⟩ (fun r w_10 H locs hp_9 hI hS => ?_)
      obtain ⟨rfl, hR⟩ := hp_9
      refine W.eq (g2 := F0 m 25 ls [.int 0]) rfl ?_
      refine lv_goto (tgt := 37) hx hb dX4_length_25 (by decide) ?_
      exact re_i hx hb hr hlocks hT hA hS hI (PoM.of (by
                unfold sp_length
                try simp only [pv_nI hpj]
                rw [if_neg (ho_3), if_neg (ez6), if_pos (e66)]
                try rfl) hR) (Nat.le_of_ble_eq_true rfl) (Nat.le_of_ble_eq_true rfl) dX4_length_37
    · have hln6 := hW.ln (Or.inl hr6)
      refine W.eq (g2 := F0 m 15 ls [.int 0]) rfl ?_
      refine lv_istore_n (lv' := [(2, .int 0), (0, .ref (mH M)), (1, .int (nI pj))]) hx hb dX4_length_15 rfl hl (by decide) rfl (fun ls hl => ?_)
      refine lv_iload_n hx hb dX4_length_16 rfl (lv_at hl 0 rfl) ?_
      refine lv_if_eq (tgt := 28) hx hb dX4_length_17 (by decide) (fun _ => ?_) (fun c => absurd c (by decide))
      refine lv_aload_n hx hb dX4_length_28 rfl (lv_at hl 1 rfl) ?_
      refine lv_aload_n hx hb dX4_length_29 rfl (lv_at hl 1 rfl) ?_
      refine lv_iload_n hx hb dX4_length_30 rfl (lv_at hl 2 rfl) ?_
      refine ca_V (As := [.int (nI pj)]) (rest := [.ref (mH M)]) (r0 := (RX4, TX4, 11)) (ci := 3) ⟨hx, hb, hml, hown, hts⟩ (cc_X4_lengthOf l E A _ (by omega) hW hR hr6) (cwV 1 hts gX4_length_X4_lengthOf rfl rfl rfl (by decide +kernel) ⟨(Nat.le_of_ble_eq_true rfl), (Nat.le_of_ble_eq_true rfl)⟩) hT hI hA hS rfl hR.1 rfl rfl hl.1 (Nat.le_of_ble_eq_true rfl) dX4_length_31 ⟨(Nat.le_of_ble_eq_true rfl), (Nat.le_of_ble_eq_true rfl)⟩ (fun r w_12 H locs hp_11 hI hS => ?_)
      obtain ⟨rfl, rfl⟩ := hp_11
      refine W.eq (g2 := F0 m 34 ls [.int (nI (lnv S (sPl S pj))), .ref (mH M)]) rfl ?_
      refine ca_V (As := [.int (nI (lnv S (sPl S pj)))]) (rest := []) (r0 := (RX4, TX4, 11)) (ci := 3) ⟨hx, hb, hml, hown, hts⟩ (cc_X4_yes l E A _ (nI (lnv S (sPl S pj))) hR) (cwV 1 hts gX4_length_X4_yes rfl rfl rfl (by decide +kernel) ⟨(Nat.le_of_ble_eq_true rfl), (Nat.le_of_ble_eq_true rfl)⟩) hT hI hA hS rfl hR.1 rfl rfl hl.1 (Nat.le_of_ble_eq_true rfl) dX4_length_34 ⟨(Nat.le_of_ble_eq_true rfl), (Nat.le_of_ble_eq_true rfl)⟩ (fun r w_14 H locs hp_13 hI hS => ?_)
      obtain ⟨rfl, hR⟩ := hp_13
      refine W.eq (g2 := F0 m 37 ls [.int (nI (lnv S (sPl S pj)))]) rfl ?_
      exact re_i hx hb hr hlocks hT hA hS hI (PoM.of (by
                unfold sp_length
                try simp only [pv_nI hpj]
                rw [if_neg (ho_3), if_neg (ez6), if_neg ((row_kd hW hr6))]
                try rfl) hR) (Nat.le_of_ble_eq_true rfl) (Nat.le_of_ble_eq_true rfl) dX4_length_37
  · have ho_3 : oP p := Classical.not_not.mp ho_3
    refine W.eq (g2 := F0 m 4 ls [.int 0]) rfl ?_
    refine lv_if_ne (tgt := 10) hx hb dX4_length_4 (by decide) (fun c => absurd c (by decide)) (fun _ => ?_)
    refine lv_ldc (v := -2000000001) hx hb hown (hts (.constant RX4 54 (-2000000001)) (by decide +kernel)) dX4_length_7 ?_
    exact re_i hx hb hr hlocks hT hA hS hI (PoM.of (by
            unfold sp_length
            rw [if_pos (ho_3)]
            try rfl) hR) (Nat.le_of_ble_eq_true rfl) (Nat.le_of_ble_eq_true rfl) dX4_length_9

set_option maxHeartbeats 4000000 in
set_option maxRecDepth 100000 in
theorem cc_X4_set (l : Launch) (E : En) (A : Nat → Prop) (w : Wd) {S : Sx} {M : Md} {tt : Nat → Int32} (p k x : Int32) (hW : Wf S) (hR : Rm E S M tt w) (hb9 : sNr S < 512 ∧ sNt S < 512 ∧ sNl S < 512) : Ct l yX4_set wsX4_set ({ frames := 2, cells := 0, slots := 0, locals := 50 } : Room) E A w [.ref (mH M), .int p, .int k, .int x] (fun r w' => PoM E M (sp_set S p k x) r w') 0 0 := by
  refine Met.ofW (cc := cX4_set) (maxL := 7) (ret := (some .int)) (by decide) rfl ?_
  intro pp0 ee0 s m args below meth cc0 s₁ B hml hv
  obtain ⟨rfl, hT, hI, hA⟩ := hv
  have hx := B.exec
  have hb := B.bytes
  have hr := B.returns
  have hts := atoms_spec (ws := wsX4_set) B.pre
  have hown : s.vm.findClass RX4 = some m.cls := findClass_of_methodNamed B.named
  have hlocks := B.notSynchronized
  have in_X4 : ∀ w ∈ wsX40, w ∈ wsX4_set := by decide +kernel
  have hS : va_S A s.heap s.heap [] := va_S.rf
  have hl := lv_entry ([.ref (mH M), .int p, .int k, .int x]) (n := 7) (Nat.le_of_ble_eq_true rfl)
  rw [lg_entry_eq]
  generalize (lg_sl ([.ref (mH M), .int p, .int k, .int x]) ++ List.replicate (7 - (lg_sl ([.ref (mH M), .int p, .int k, .int x])).length) Slot.unset).toArray = ls at hl ⊢
  have hl : lv_has ls 7 [(0, .ref (mH M)), (1, .int p), (2, .int k), (3, .int x)] := hl
  refine lv_iload_n hx hb dX4_set_0 rfl (lv_at hl 1 rfl) ?_
  refine ca_S (As := [.int p]) (rest := []) ⟨hx, hb, hml, hown, hts⟩ (cc_X4_isPlace l E A _ p) (va_cwS 1 hts gX4_set_X4_isPlace rfl rfl rfl (by decide +kernel) ⟨(Nat.le_of_ble_eq_true rfl), (Nat.le_of_ble_eq_true rfl)⟩) hT hI hA hS rfl rfl hl.1 (Nat.le_of_ble_eq_true rfl) dX4_set_1 ⟨(Nat.le_of_ble_eq_true rfl), (Nat.le_of_ble_eq_true rfl)⟩ (fun r w_2 H locs hp_1 hI hS => ?_)
  obtain ⟨rfl, ⟨ho_3, rfl⟩ | ⟨ho_3, rfl⟩⟩ := hp_1
  · refine W.eq (g2 := F0 m 4 ls [.int 1]) rfl ?_
    refine lv_if_ne (tgt := 10) hx hb dX4_set_4 (by decide) (fun _ => ?_) (fun c => absurd c (by decide))
    obtain ⟨pj, hpj, rfl⟩ := isP_nat ho_3
    refine lv_aload_n hx hb dX4_set_10 rfl (lv_at hl 0 rfl) ?_
    refine lv_iload_n hx hb dX4_set_11 rfl (lv_at hl 1 rfl) ?_
    refine lv_iconst (v := 0) hx hb dX4_set_12 (by decide) ?_
    refine lv_iconst (v := 1) hx hb dX4_set_13 (by decide) ?_
    refine lv_iload_n hx hb dX4_set_14 rfl (lv_at hl 2 rfl) ?_
    refine ca_V (As := [.int (nI pj), .int 0, .int 1, .int k]) (rest := []) (r0 := (RX4, TX4, 11)) (ci := 3) ⟨hx, hb, hml, hown, hts⟩ (cc_X4_wantsItem l E A _ (by omega) 0 1 k hW hR) (cwV 4 hts gX4_set_X4_wantsItem rfl rfl rfl (by decide +kernel) ⟨(Nat.le_of_ble_eq_true rfl), (Nat.le_of_ble_eq_true rfl)⟩) hT hI hA hS rfl hR.1 rfl rfl hl.1 (Nat.le_of_ble_eq_true rfl) dX4_set_15 ⟨(Nat.le_of_ble_eq_true rfl), (Nat.le_of_ble_eq_true rfl)⟩ (fun r w_5 H locs hp_4 hI hS => ?_)
    obtain ⟨rfl, ⟨ez6, rfl⟩ | ⟨ez6, hk6, rfl⟩ | ⟨ez6, hk6, hi6, rfl⟩ | ⟨ez6, hk6, hi6, rfl⟩⟩ := hp_4
    · refine W.eq (g2 := F0 m 18 ls [.int 1]) rfl ?_
      refine lv_istore (lv' := [(4, .int 1), (0, .ref (mH M)), (1, .int (nI pj)), (2, .int k), (3, .int x)]) hx hb dX4_set_18 hl (by decide) rfl (fun ls hl => ?_)
      refine lv_iload hx hb dX4_set_20 (lv_at hl 0 rfl) ?_
      refine lv_if_eq (tgt := 32) hx hb dX4_set_22 (by decide) (fun c => absurd c (by decide)) (fun _ => ?_)
      refine lv_aload_n hx hb dX4_set_25 rfl (lv_at hl 1 rfl) ?_
      refine lv_iload hx hb dX4_set_26 (lv_at hl 0 rfl) ?_
      refine ca_V (As := [.int 1]) (rest := []) (r0 := (RX4, TX4, 11)) (ci := 3) ⟨hx, hb, hml, hown, hts⟩ (cc_X4_no l E A _ 1 hR) (cwV 1 hts gX4_set_X4_no rfl rfl rfl (by decide +kernel) ⟨(Nat.le_of_ble_eq_true rfl), (Nat.le_of_ble_eq_true rfl)⟩) hT hI hA hS rfl hR.1 rfl rfl hl.1 (Nat.le_of_ble_eq_true rfl) dX4_set_28 ⟨(Nat.le_of_ble_eq_true rfl), (Nat.le_of_ble_eq_true rfl)⟩ (fun r w_8 H locs hp_7 hI hS => ?_)
      obtain ⟨rfl, hR⟩ := hp_7
      refine W.eq (g2 := F0 m 31 ls [.int 0]) rfl ?_
      exact re_i hx hb hr hlocks hT hA hS hI (PoM.of (by
                unfold sp_set
                try simp only [pv_nI hpj]
                rw [if_neg (ho_3), if_pos (ez6)]
                try rfl) hR) (Nat.le_of_ble_eq_true rfl) (Nat.le_of_ble_eq_true rfl) dX4_set_31
    · have hk6 : ¬ (isN (kdv S (sPl S pj))) := fun q9 => hk6 ((wi01 ((hW.1 pj).resolve_left ez6)).mpr q9)
      refine W.eq (g2 := F0 m 18 ls [.int 5]) rfl ?_
      refine lv_istore (lv' := [(4, .int 5), (0, .ref (mH M)), (1, .int (nI pj)), (2, .int k), (3, .int x)]) hx hb dX4_set_18 hl (by decide) rfl (fun ls hl => ?_)
      refine lv_iload hx hb dX4_set_20 (lv_at hl 0 rfl) ?_
      refine lv_if_eq (tgt := 32) hx hb dX4_set_22 (by decide) (fun c => absurd c (by decide)) (fun _ => ?_)
      refine lv_aload_n hx hb dX4_set_25 rfl (lv_at hl 1 rfl) ?_
      refine lv_iload hx hb dX4_set_26 (lv_at hl 0 rfl) ?_
      refine ca_V (As := [.int 5]) (rest := []) (r0 := (RX4, TX4, 11)) (ci := 3) ⟨hx, hb, hml, hown, hts⟩ (cc_X4_no l E A _ 5 hR) (cwV 1 hts gX4_set_X4_no rfl rfl rfl (by decide +kernel) ⟨(Nat.le_of_ble_eq_true rfl), (Nat.le_of_ble_eq_true rfl)⟩) hT hI hA hS rfl hR.1 rfl rfl hl.1 (Nat.le_of_ble_eq_true rfl) dX4_set_28 ⟨(Nat.le_of_ble_eq_true rfl), (Nat.le_of_ble_eq_true rfl)⟩ (fun r w_10 H locs hp_9 hI hS => ?_)
      obtain ⟨rfl, hR⟩ := hp_9
      refine W.eq (g2 := F0 m 31 ls [.int 0]) rfl ?_
      exact re_i hx hb hr hlocks hT hA hS hI (PoM.of (by
                unfold sp_set
                try simp only [pv_nI hpj]
                rw [if_neg (ho_3), if_neg (ez6), if_pos (hk6)]
                try rfl) hR) (Nat.le_of_ble_eq_true rfl) (Nat.le_of_ble_eq_true rfl) dX4_set_31
    · have hr6 := hk6.1
      have hln6 := hW.ln (Or.inl hr6)
      have hk6 : isN (kdv S (sPl S pj)) := (wi01 ((hW.1 pj).resolve_left ez6)).mp hk6
      refine W.eq (g2 := F0 m 18 ls [.int 3]) rfl ?_
      refine lv_istore (lv' := [(4, .int 3), (0, .ref (mH M)), (1, .int (nI pj)), (2, .int k), (3, .int x)]) hx hb dX4_set_18 hl (by decide) rfl (fun ls hl => ?_)
      refine lv_iload hx hb dX4_set_20 (lv_at hl 0 rfl) ?_
      refine lv_if_eq (tgt := 32) hx hb dX4_set_22 (by decide) (fun c => absurd c (by decide)) (fun _ => ?_)
      refine lv_aload_n hx hb dX4_set_25 rfl (lv_at hl 1 rfl) ?_
      refine lv_iload hx hb dX4_set_26 (lv_at hl 0 rfl) ?_
      refine ca_V (As := [.int 3]) (rest := []) (r0 := (RX4, TX4, 11)) (ci := 3) ⟨hx, hb, hml, hown, hts⟩ (cc_X4_no l E A _ 3 hR) (cwV 1 hts gX4_set_X4_no rfl rfl rfl (by decide +kernel) ⟨(Nat.le_of_ble_eq_true rfl), (Nat.le_of_ble_eq_true rfl)⟩) hT hI hA hS rfl hR.1 rfl rfl hl.1 (Nat.le_of_ble_eq_true rfl) dX4_set_28 ⟨(Nat.le_of_ble_eq_true rfl), (Nat.le_of_ble_eq_true rfl)⟩ (fun r w_12 H locs hp_11 hI hS => ?_)
      obtain ⟨rfl, hR⟩ := hp_11
      refine W.eq (g2 := F0 m 31 ls [.int 0]) rfl ?_
      exact re_i hx hb hr hlocks hT hA hS hI (PoM.of (by
                unfold sp_set
                try simp only [pv_nI hpj]
                rw [if_neg (ho_3), if_neg (ez6), if_neg ((not_not_intro hk6)), if_pos (hi6)]
                try rfl) hR) (Nat.le_of_ble_eq_true rfl) (Nat.le_of_ble_eq_true rfl) dX4_set_31
    · have hr6 := hk6.1
      have hln6 := hW.ln (Or.inl hr6)
      have hk6 : isN (kdv S (sPl S pj)) := (wi01 ((hW.1 pj).resolve_left ez6)).mp hk6
      refine W.eq (g2 := F0 m 18 ls [.int 0]) rfl ?_
      refine lv_istore (lv' := [(4, .int 0), (0, .ref (mH M)), (1, .int (nI pj)), (2, .int k), (3, .int x)]) hx hb dX4_set_18 hl (by decide) rfl (fun ls hl => ?_)
      refine lv_iload hx hb dX4_set_20 (lv_at hl 0 rfl) ?_
      refine lv_if_eq (tgt := 32) hx hb dX4_set_22 (by decide) (fun _ => ?_) (fun c => absurd c (by decide))
      obtain ⟨kj, hkj, rfl⟩ := oI_nat (hW.ln (Or.inl hr6)) hi6
      refine lv_aload_n hx hb dX4_set_32 rfl (lv_at hl 1 rfl) ?_
      refine wr_get (ci := 3) (C := RX4) (T := TX4) (N := 11) (v := .ref (mP M)) hx hb hts in_X4 hown hT hI hR.1 rfl 1 (by decide) (hts (.fieldLink RX4 7 "CopyRowsModel" "places" "[I") (by decide +kernel)) rfl dX4_set_33 ?_
      refine lv_iload_n hx hb dX4_set_36 rfl (lv_at hl 2 rfl) ?_
      refine wr_ialdN (t := pj) (n := 12) (f := plF S) hx hb hT hI hR.2.1 (by omega) (by omega) dX4_set_37 ?_
      refine W.eq (g2 := F0 m 38 ls [.int (sPl S pj)]) (by rw [plF_at (by omega)]) ?_
      refine lv_istore (lv' := [(5, .int (sPl S pj)), (4, .int 0), (0, .ref (mH M)), (1, .int (nI pj)), (2, .int (nI kj)), (3, .int x)]) hx hb dX4_set_38 hl (by decide) rfl (fun ls hl => ?_)
      refine lv_aload_n hx hb dX4_set_40 rfl (lv_at hl 2 rfl) ?_
      refine lv_iload hx hb dX4_set_41 (lv_at hl 0 rfl) ?_
      refine lv_iload_n hx hb dX4_set_43 rfl (lv_at hl 4 rfl) ?_
      refine ca_V (As := [.int (sPl S pj), .int (nI kj)]) (rest := []) (r0 := (RX4, TX4, 11)) (ci := 3) ⟨hx, hb, hml, hown, hts⟩ (cM_get l E A _ hr6 (by have := hW.2.2.2; omega) (by omega) hR) (cwV 2 hts gX4_set_X4_get rfl rfl rfl (by decide +kernel) ⟨(Nat.le_of_ble_eq_true rfl), (Nat.le_of_ble_eq_true rfl)⟩) hT hI hA hS rfl hR.1 rfl rfl hl.1 (Nat.le_of_ble_eq_true rfl) dX4_set_44 ⟨(Nat.le_of_ble_eq_true rfl), (Nat.le_of_ble_eq_true rfl)⟩ (fun r w_14 H locs hp_13 hI hS => ?_)
      obtain ⟨rfl, rfl⟩ := hp_13
      refine W.eq (g2 := F0 m 47 ls [.int (itv S (sPl S pj) kj)]) rfl ?_
      refine lv_istore (lv' := [(6, .int (itv S (sPl S pj) kj)), (5, .int (sPl S pj)), (4, .int 0), (0, .ref (mH M)), (1, .int (nI pj)), (2, .int (nI kj)), (3, .int x)]) hx hb dX4_set_47 hl (by decide) rfl (fun ls hl => ?_)
      refine lv_aload_n hx hb dX4_set_49 rfl (lv_at hl 3 rfl) ?_
      refine lv_iload hx hb dX4_set_50 (lv_at hl 1 rfl) ?_
      refine lv_iload_n hx hb dX4_set_52 rfl (lv_at hl 5 rfl) ?_
      refine lv_aload_n hx hb dX4_set_53 rfl (lv_at hl 3 rfl) ?_
      refine wr_get (ci := 3) (C := RX4) (T := TX4) (N := 11) (v := .ref (mK M)) hx hb hts in_X4 hown hT hI hR.1 rfl 3 (by decide) (hts (.fieldLink RX4 13 "CopyRowsModel" "kinds" "[I") (by decide +kernel)) rfl dX4_set_54 ?_
      refine lv_iload hx hb dX4_set_57 (lv_at hl 1 rfl) ?_
      refine W.eq (g2 := F0 m 59 ls [.int (nI (ix (sPl S pj))), .ref (mK M), .int (nI kj), .int (sPl S pj), .ref (mH M)]) (by rw [nI_ix hr6.1]) ?_
      refine wr_ialdN (t := ix (sPl S pj)) (n := 520) (f := sKd S) hx hb hT hI hR.2.2.1 (by have h9 := hr6.2; have h8 := hW.2.2.2; omega) (by omega) dX4_set_59 ?_
      refine W.eq (g2 := F0 m 60 ls [.int (kdv S (sPl S pj)), .int (nI kj), .int (sPl S pj), .ref (mH M)]) (by rw [kdv_r hr6]) ?_
      refine lv_if_ne (tgt := 70) hx hb dX4_set_60 (by decide) (fun c_15 => ?_) (fun c_15 => ?_)
      · refine lv_iload_n hx hb dX4_set_70 rfl (lv_at hl 6 rfl) ?_
        refine ca_V (As := [.int (sPl S pj), .int (nI kj), .int x]) (rest := []) (r0 := (RX4, TX4, 11)) (ci := 3) ⟨hx, hb, hml, hown, hts⟩ (cM_put l E A _ (x) hr6 (by have := hW.2.2.2; show sNr S ≤ 512; omega) (by omega) hR) (cwV 3 hts gX4_set_X4_put rfl rfl rfl (by decide +kernel) ⟨(Nat.le_of_ble_eq_true rfl), (Nat.le_of_ble_eq_true rfl)⟩) hT hI hA hS rfl hR.1 rfl rfl hl.1 (Nat.le_of_ble_eq_true rfl) dX4_set_71 ⟨(Nat.le_of_ble_eq_true rfl), (Nat.le_of_ble_eq_true rfl)⟩ (fun r w_17 H locs hp_16 hI hS => ?_)
        obtain ⟨rfl, hR⟩ := hp_16
        refine W.eq (g2 := F0 m 74 ls []) rfl ?_
        refine lv_aload_n hx hb dX4_set_74 rfl (lv_at hl 3 rfl) ?_
        refine lv_iload hx hb dX4_set_75 (lv_at hl 0 rfl) ?_
        refine ca_V (As := [.int (itv S (sPl S pj) kj)]) (rest := []) (r0 := (RX4, TX4, 11)) (ci := 3) ⟨hx, hb, hml, hown, hts⟩ (cc_X4_yes l E A _ (itv S (sPl S pj) kj) hR) (cwV 1 hts gX4_set_X4_yes rfl rfl rfl (by decide +kernel) ⟨(Nat.le_of_ble_eq_true rfl), (Nat.le_of_ble_eq_true rfl)⟩) hT hI hA hS rfl hR.1 rfl rfl hl.1 (Nat.le_of_ble_eq_true rfl) dX4_set_77 ⟨(Nat.le_of_ble_eq_true rfl), (Nat.le_of_ble_eq_true rfl)⟩ (fun r w_19 H locs hp_18 hI hS => ?_)
        obtain ⟨rfl, hR⟩ := hp_18
        refine W.eq (g2 := F0 m 80 ls [.int (itv S (sPl S pj) kj)]) rfl ?_
        exact re_i hx hb hr hlocks hT hA hS hI (PoM.of (by
                    unfold sp_set
                    try simp only [pv_nI hpj, ix_nI (show kj < 2 ^ 31 by omega)]
                    rw [if_neg (ho_3), if_neg (ez6), if_neg ((not_not_intro hk6)), if_neg (hi6)]
                    rw [if_neg c_15]
                    try rfl) hR) (Nat.le_of_ble_eq_true rfl) (Nat.le_of_ble_eq_true rfl) dX4_set_80
      · refine lv_iload_n hx hb dX4_set_63 rfl (lv_at hl 6 rfl) ?_
        refine ca_S (As := [.int x]) (rest := [.int (nI kj), .int (sPl S pj), .ref (mH M)]) ⟨hx, hb, hml, hown, hts⟩ (cc_X4_low8 l E A _ x) (va_cwS 1 hts gX4_set_X4_low8 rfl rfl rfl (by decide +kernel) ⟨(Nat.le_of_ble_eq_true rfl), (Nat.le_of_ble_eq_true rfl)⟩) hT hI hA hS rfl rfl hl.1 (Nat.le_of_ble_eq_true rfl) dX4_set_64 ⟨(Nat.le_of_ble_eq_true rfl), (Nat.le_of_ble_eq_true rfl)⟩ (fun r w_21 H locs hp_20 hI hS => ?_)
        obtain ⟨rfl, rfl⟩ := hp_20
        refine W.eq (g2 := F0 m 67 ls [.int x.toInt8.toInt32, .int (nI kj), .int (sPl S pj), .ref (mH M)]) rfl ?_
        refine lv_goto (tgt := 71) hx hb dX4_set_67 (by decide) ?_
        refine ca_V (As := [.int (sPl S pj), .int (nI kj), .int x.toInt8.toInt32]) (rest := []) (r0 := (RX4, TX4, 11)) (ci := 3) ⟨hx, hb, hml, hown, hts⟩ (cM_put l E A _ (x.toInt8.toInt32) hr6 (by have := hW.2.2.2; show sNr S ≤ 512; omega) (by omega) hR) (cwV 3 hts gX4_set_X4_put rfl rfl rfl (by decide +kernel) ⟨(Nat.le_of_ble_eq_true rfl), (Nat.le_of_ble_eq_true rfl)⟩) hT hI hA hS rfl hR.1 rfl rfl hl.1 (Nat.le_of_ble_eq_true rfl) dX4_set_71 ⟨(Nat.le_of_ble_eq_true rfl), (Nat.le_of_ble_eq_true rfl)⟩ (fun r w_23 H locs hp_22 hI hS => ?_)
        obtain ⟨rfl, hR⟩ := hp_22
        refine W.eq (g2 := F0 m 74 ls []) rfl ?_
        refine lv_aload_n hx hb dX4_set_74 rfl (lv_at hl 3 rfl) ?_
        refine lv_iload hx hb dX4_set_75 (lv_at hl 0 rfl) ?_
        refine ca_V (As := [.int (itv S (sPl S pj) kj)]) (rest := []) (r0 := (RX4, TX4, 11)) (ci := 3) ⟨hx, hb, hml, hown, hts⟩ (cc_X4_yes l E A _ (itv S (sPl S pj) kj) hR) (cwV 1 hts gX4_set_X4_yes rfl rfl rfl (by decide +kernel) ⟨(Nat.le_of_ble_eq_true rfl), (Nat.le_of_ble_eq_true rfl)⟩) hT hI hA hS rfl hR.1 rfl rfl hl.1 (Nat.le_of_ble_eq_true rfl) dX4_set_77 ⟨(Nat.le_of_ble_eq_true rfl), (Nat.le_of_ble_eq_true rfl)⟩ (fun r w_25 H locs hp_24 hI hS => ?_)
        obtain ⟨rfl, hR⟩ := hp_24
        refine W.eq (g2 := F0 m 80 ls [.int (itv S (sPl S pj) kj)]) rfl ?_
        exact re_i hx hb hr hlocks hT hA hS hI (PoM.of (by
                    unfold sp_set
                    try simp only [pv_nI hpj, ix_nI (show kj < 2 ^ 31 by omega)]
                    rw [if_neg (ho_3), if_neg (ez6), if_neg ((not_not_intro hk6)), if_neg (hi6)]
                    rw [if_pos c_15]
                    try rfl) hR) (Nat.le_of_ble_eq_true rfl) (Nat.le_of_ble_eq_true rfl) dX4_set_80
  · have ho_3 : oP p := Classical.not_not.mp ho_3
    refine W.eq (g2 := F0 m 4 ls [.int 0]) rfl ?_
    refine lv_if_ne (tgt := 10) hx hb dX4_set_4 (by decide) (fun c => absurd c (by decide)) (fun _ => ?_)
    refine lv_ldc (v := -2000000001) hx hb hown (hts (.constant RX4 54 (-2000000001)) (by decide +kernel)) dX4_set_7 ?_
    exact re_i hx hb hr hlocks hT hA hS hI (PoM.of (by
            unfold sp_set
            rw [if_pos (ho_3)]
            try rfl) hR) (Nat.le_of_ble_eq_true rfl) (Nat.le_of_ble_eq_true rfl) dX4_set_9

set_option maxHeartbeats 4000000 in
set_option maxRecDepth 100000 in
theorem cc_X4_thing (l : Launch) (E : En) (A : Nat → Prop) (w : Wd) {S : Sx} {M : Md} {tt : Nat → Int32} (p k c x : Int32) (hW : Wf S) (hR : Rm E S M tt w) (hb9 : sNr S < 512 ∧ sNt S < 512 ∧ sNl S < 512) : Ct l yX4_thing wsX4_thing ({ frames := 2, cells := 0, slots := 0, locals := 50 } : Room) E A w [.ref (mH M), .int p, .int k, .int c, .int x] (fun r w' => PoM E M (sp_thing S p k c x) r w') 0 0 := by
  refine Met.ofW (cc := cX4_thing) (maxL := 6) (ret := (some .int)) (by decide) rfl ?_
  intro pp0 ee0 s m args below meth cc0 s₁ B hml hv
  obtain ⟨rfl, hT, hI, hA⟩ := hv
  have hx := B.exec
  have hb := B.bytes
  have hr := B.returns
  have hts := atoms_spec (ws := wsX4_thing) B.pre
  have hown : s.vm.findClass RX4 = some m.cls := findClass_of_methodNamed B.named
  have hlocks := B.notSynchronized
  have in_X4 : ∀ w ∈ wsX40, w ∈ wsX4_thing := by decide +kernel
  have hS : va_S A s.heap s.heap [] := va_S.rf
  have hl := lv_entry ([.ref (mH M), .int p, .int k, .int c, .int x]) (n := 6) (Nat.le_of_ble_eq_true rfl)
  rw [lg_entry_eq]
  generalize (lg_sl ([.ref (mH M), .int p, .int k, .int c, .int x]) ++ List.replicate (6 - (lg_sl ([.ref (mH M), .int p, .int k, .int c, .int x])).length) Slot.unset).toArray = ls at hl ⊢
  have hl : lv_has ls 6 [(0, .ref (mH M)), (1, .int p), (2, .int k), (3, .int c), (4, .int x)] := hl
  refine lv_iload_n hx hb dX4_thing_0 rfl (lv_at hl 1 rfl) ?_
  refine ca_S (As := [.int p]) (rest := []) ⟨hx, hb, hml, hown, hts⟩ (cc_X4_isPlace l E A _ p) (va_cwS 1 hts gX4_thing_X4_isPlace rfl rfl rfl (by decide +kernel) ⟨(Nat.le_of_ble_eq_true rfl), (Nat.le_of_ble_eq_true rfl)⟩) hT hI hA hS rfl rfl hl.1 (Nat.le_of_ble_eq_true rfl) dX4_thing_1 ⟨(Nat.le_of_ble_eq_true rfl), (Nat.le_of_ble_eq_true rfl)⟩ (fun r w_2 H locs hp_1 hI hS => ?_)
  obtain ⟨rfl, ⟨ho_3, rfl⟩ | ⟨ho_3, rfl⟩⟩ := hp_1
  · refine W.eq (g2 := F0 m 4 ls [.int 1]) rfl ?_
    refine lv_if_eq (tgt := 21) hx hb dX4_thing_4 (by decide) (fun c => absurd c (by decide)) (fun _ => ?_)
    refine lv_iload_n hx hb dX4_thing_7 rfl (lv_at hl 3 rfl) ?_
    refine lv_i2l (v := c.toInt64) hx hb dX4_thing_8 rfl ?_
    refine lv_ldc2 (v := -1) hx hb hown (hts (.constantLong RX4 88 (-1)) (by decide +kernel)) dX4_thing_9 ?_
    refine lv_ldc2 (v := 2) hx hb hown (hts (.constantLong RX4 90 (2)) (by decide +kernel)) dX4_thing_12 ?_
    refine ca_S (As := [.long c.toInt64, .long (-1), .long 2]) (rest := []) ⟨hx, hb, hml, hown, hts⟩ (cc_X4_within l E A _ c.toInt64 (-1) 2) (va_cwS 3 hts gX4_thing_X4_within rfl rfl rfl (by decide +kernel) ⟨(Nat.le_of_ble_eq_true rfl), (Nat.le_of_ble_eq_true rfl)⟩) hT hI hA hS rfl rfl hl.1 (Nat.le_of_ble_eq_true rfl) dX4_thing_15 ⟨(Nat.le_of_ble_eq_true rfl), (Nat.le_of_ble_eq_true rfl)⟩ (fun r w_5 H locs hp_4 hI hS => ?_)
    obtain ⟨rfl, ⟨hw_6, rfl⟩ | ⟨hw_6, rfl⟩⟩ := hp_4
    · have hw_6 : ¬ (c < -1 ∨ ¬ c ≤ 2) := cr_iff.mp hw_6
      refine W.eq (g2 := F0 m 18 ls [.int 1]) rfl ?_
      refine lv_if_ne (tgt := 24) hx hb dX4_thing_18 (by decide) (fun _ => ?_) (fun c => absurd c (by decide))
      obtain ⟨pj, hpj, rfl⟩ := isP_nat ho_3
      refine lv_aload_n hx hb dX4_thing_24 rfl (lv_at hl 0 rfl) ?_
      refine lv_iload_n hx hb dX4_thing_25 rfl (lv_at hl 1 rfl) ?_
      refine lv_iconst (v := 3) hx hb dX4_thing_26 (by decide) ?_
      refine lv_iconst (v := 5) hx hb dX4_thing_27 (by decide) ?_
      refine lv_iload_n hx hb dX4_thing_28 rfl (lv_at hl 2 rfl) ?_
      refine ca_V (As := [.int (nI pj), .int 3, .int 5, .int k]) (rest := []) (r0 := (RX4, TX4, 11)) (ci := 3) ⟨hx, hb, hml, hown, hts⟩ (cc_X4_wantsItem l E A _ (by omega) 3 5 k hW hR) (cwV 4 hts gX4_thing_X4_wantsItem rfl rfl rfl (by decide +kernel) ⟨(Nat.le_of_ble_eq_true rfl), (Nat.le_of_ble_eq_true rfl)⟩) hT hI hA hS rfl hR.1 rfl rfl hl.1 (Nat.le_of_ble_eq_true rfl) dX4_thing_29 ⟨(Nat.le_of_ble_eq_true rfl), (Nat.le_of_ble_eq_true rfl)⟩ (fun r w_8 H locs hp_7 hI hS => ?_)
      obtain ⟨rfl, ⟨ez9, rfl⟩ | ⟨ez9, hk9, rfl⟩ | ⟨ez9, hk9, hi9, rfl⟩ | ⟨ez9, hk9, hi9, rfl⟩⟩ := hp_7
      · refine W.eq (g2 := F0 m 32 ls [.int 1]) rfl ?_
        refine lv_istore (lv' := [(5, .int 1), (0, .ref (mH M)), (1, .int (nI pj)), (2, .int k), (3, .int c), (4, .int x)]) hx hb dX4_thing_32 hl (by decide) rfl (fun ls hl => ?_)
        refine lv_iload hx hb dX4_thing_34 (lv_at hl 0 rfl) ?_
        refine lv_if_ne (tgt := 54) hx hb dX4_thing_36 (by decide) (fun _ => ?_) (fun c => absurd c (by decide))
        refine lv_iload hx hb dX4_thing_54 (lv_at hl 0 rfl) ?_
        refine lv_if_eq (tgt := 66) hx hb dX4_thing_56 (by decide) (fun c => absurd c (by decide)) (fun _ => ?_)
        refine lv_aload_n hx hb dX4_thing_59 rfl (lv_at hl 1 rfl) ?_
        refine lv_iload hx hb dX4_thing_60 (lv_at hl 0 rfl) ?_
        refine ca_V (As := [.int 1]) (rest := []) (r0 := (RX4, TX4, 11)) (ci := 3) ⟨hx, hb, hml, hown, hts⟩ (cc_X4_no l E A _ 1 hR) (cwV 1 hts gX4_thing_X4_no rfl rfl rfl (by decide +kernel) ⟨(Nat.le_of_ble_eq_true rfl), (Nat.le_of_ble_eq_true rfl)⟩) hT hI hA hS rfl hR.1 rfl rfl hl.1 (Nat.le_of_ble_eq_true rfl) dX4_thing_62 ⟨(Nat.le_of_ble_eq_true rfl), (Nat.le_of_ble_eq_true rfl)⟩ (fun r w_11 H locs hp_10 hI hS => ?_)
        obtain ⟨rfl, hR⟩ := hp_10
        refine W.eq (g2 := F0 m 65 ls [.int 0]) rfl ?_
        exact re_i hx hb hr hlocks hT hA hS hI (PoM.of (by
                    unfold sp_thing
                    try simp only [pv_nI hpj]
                    rw [if_neg (fun q9 => q9.elim ho_3 hw_6), if_pos (ez9)]
                    try rfl) hR) (Nat.le_of_ble_eq_true rfl) (Nat.le_of_ble_eq_true rfl) dX4_thing_65
      · have hk9 : ¬ (kT (kdv S (sPl S pj))) := fun q9 => hk9 ((wi35 hW ((hW.1 pj).resolve_left ez9)).mpr q9)
        refine W.eq (g2 := F0 m 32 ls [.int 5]) rfl ?_
        refine lv_istore (lv' := [(5, .int 5), (0, .ref (mH M)), (1, .int (nI pj)), (2, .int k), (3, .int c), (4, .int x)]) hx hb dX4_thing_32 hl (by decide) rfl (fun ls hl => ?_)
        refine lv_iload hx hb dX4_thing_34 (lv_at hl 0 rfl) ?_
        refine lv_if_ne (tgt := 54) hx hb dX4_thing_36 (by decide) (fun _ => ?_) (fun c => absurd c (by decide))
        refine lv_iload hx hb dX4_thing_54 (lv_at hl 0 rfl) ?_
        refine lv_if_eq (tgt := 66) hx hb dX4_thing_56 (by decide) (fun c => absurd c (by decide)) (fun _ => ?_)
        refine lv_aload_n hx hb dX4_thing_59 rfl (lv_at hl 1 rfl) ?_
        refine lv_iload hx hb dX4_thing_60 (lv_at hl 0 rfl) ?_
        refine ca_V (As := [.int 5]) (rest := []) (r0 := (RX4, TX4, 11)) (ci := 3) ⟨hx, hb, hml, hown, hts⟩ (cc_X4_no l E A _ 5 hR) (cwV 1 hts gX4_thing_X4_no rfl rfl rfl (by decide +kernel) ⟨(Nat.le_of_ble_eq_true rfl), (Nat.le_of_ble_eq_true rfl)⟩) hT hI hA hS rfl hR.1 rfl rfl hl.1 (Nat.le_of_ble_eq_true rfl) dX4_thing_62 ⟨(Nat.le_of_ble_eq_true rfl), (Nat.le_of_ble_eq_true rfl)⟩ (fun r w_13 H locs hp_12 hI hS => ?_)
        obtain ⟨rfl, hR⟩ := hp_12
        refine W.eq (g2 := F0 m 65 ls [.int 0]) rfl ?_
        exact re_i hx hb hr hlocks hT hA hS hI (PoM.of (by
                    unfold sp_thing
                    try simp only [pv_nI hpj]
                    rw [if_neg (fun q9 => q9.elim ho_3 hw_6), if_neg (ez9), if_pos (hk9)]
                    try rfl) hR) (Nat.le_of_ble_eq_true rfl) (Nat.le_of_ble_eq_true rfl) dX4_thing_65
      · have hr9 := hk9.1
        have hln9 := hW.ln (Or.inl hr9)
        have hk9 : kT (kdv S (sPl S pj)) := (wi35 hW ((hW.1 pj).resolve_left ez9)).mp hk9
        refine W.eq (g2 := F0 m 32 ls [.int 3]) rfl ?_
        refine lv_istore (lv' := [(5, .int 3), (0, .ref (mH M)), (1, .int (nI pj)), (2, .int k), (3, .int c), (4, .int x)]) hx hb dX4_thing_32 hl (by decide) rfl (fun ls hl => ?_)
        refine lv_iload hx hb dX4_thing_34 (lv_at hl 0 rfl) ?_
        refine lv_if_ne (tgt := 54) hx hb dX4_thing_36 (by decide) (fun _ => ?_) (fun c => absurd c (by decide))
        refine lv_iload hx hb dX4_thing_54 (lv_at hl 0 rfl) ?_
        refine lv_if_eq (tgt := 66) hx hb dX4_thing_56 (by decide) (fun c => absurd c (by decide)) (fun _ => ?_)
        refine lv_aload_n hx hb dX4_thing_59 rfl (lv_at hl 1 rfl) ?_
        refine lv_iload hx hb dX4_thing_60 (lv_at hl 0 rfl) ?_
        refine ca_V (As := [.int 3]) (rest := []) (r0 := (RX4, TX4, 11)) (ci := 3) ⟨hx, hb, hml, hown, hts⟩ (cc_X4_no l E A _ 3 hR) (cwV 1 hts gX4_thing_X4_no rfl rfl rfl (by decide +kernel) ⟨(Nat.le_of_ble_eq_true rfl), (Nat.le_of_ble_eq_true rfl)⟩) hT hI hA hS rfl hR.1 rfl rfl hl.1 (Nat.le_of_ble_eq_true rfl) dX4_thing_62 ⟨(Nat.le_of_ble_eq_true rfl), (Nat.le_of_ble_eq_true rfl)⟩ (fun r w_15 H locs hp_14 hI hS => ?_)
        obtain ⟨rfl, hR⟩ := hp_14
        refine W.eq (g2 := F0 m 65 ls [.int 0]) rfl ?_
        exact re_i hx hb hr hlocks hT hA hS hI (PoM.of (by
                    unfold sp_thing
                    try simp only [pv_nI hpj]
                    rw [if_neg (fun q9 => q9.elim ho_3 hw_6), if_neg (ez9), if_neg ((not_not_intro hk9)), if_pos (hi9)]
                    try rfl) hR) (Nat.le_of_ble_eq_true rfl) (Nat.le_of_ble_eq_true rfl) dX4_thing_65
      · have hr9 := hk9.1
        have hln9 := hW.ln (Or.inl hr9)
        have hk9 : kT (kdv S (sPl S pj)) := (wi35 hW ((hW.1 pj).resolve_left ez9)).mp hk9
        refine W.eq (g2 := F0 m 32 ls [.int 0]) rfl ?_
        refine lv_istore (lv' := [(5, .int 0), (0, .ref (mH M)), (1, .int (nI pj)), (2, .int k), (3, .int c), (4, .int x)]) hx hb dX4_thing_32 hl (by decide) rfl (fun ls hl => ?_)
        refine lv_iload hx hb dX4_thing_34 (lv_at hl 0 rfl) ?_
        refine lv_if_ne (tgt := 54) hx hb dX4_thing_36 (by decide) (fun c => absurd c (by decide)) (fun _ => ?_)
        refine lv_iload_n hx hb dX4_thing_39 rfl (lv_at hl 4 rfl) ?_
        refine lv_aload_n hx hb dX4_thing_40 rfl (lv_at hl 1 rfl) ?_
        refine lv_iload_n hx hb dX4_thing_41 rfl (lv_at hl 2 rfl) ?_
        refine ca_V (As := [.int (nI pj)]) (rest := [.int c]) (r0 := (RX4, TX4, 11)) (ci := 3) ⟨hx, hb, hml, hown, hts⟩ (cc_X4_kindOf l E A _ (by omega) hW hR) (cwV 1 hts gX4_thing_X4_kindOf rfl rfl rfl (by decide +kernel) ⟨(Nat.le_of_ble_eq_true rfl), (Nat.le_of_ble_eq_true rfl)⟩) hT hI hA hS rfl hR.1 rfl rfl hl.1 (Nat.le_of_ble_eq_true rfl) dX4_thing_42 ⟨(Nat.le_of_ble_eq_true rfl), (Nat.le_of_ble_eq_true rfl)⟩ (fun r w_17 H locs hp_16 hI hS => ?_)
        obtain ⟨rfl, rfl⟩ := hp_16
        rw [kp_ne ez9]
        refine W.eq (g2 := F0 m 45 ls [.int (kdv S (sPl S pj)), .int c]) rfl ?_
        refine ca_S (As := [.int c, .int (kdv S (sPl S pj))]) (rest := []) ⟨hx, hb, hml, hown, hts⟩ (cc_X4_fitsClass l E A _ c (kdv S (sPl S pj))) (va_cwS 2 hts gX4_thing_X4_fitsClass rfl rfl rfl (by decide +kernel) ⟨(Nat.le_of_ble_eq_true rfl), (Nat.le_of_ble_eq_true rfl)⟩) hT hI hA hS rfl rfl hl.1 (Nat.le_of_ble_eq_true rfl) dX4_thing_45 ⟨(Nat.le_of_ble_eq_true rfl), (Nat.le_of_ble_eq_true rfl)⟩ (fun r w_19 H locs hp_18 hI hS => ?_)
        obtain ⟨rfl, ⟨hw_20, rfl⟩ | ⟨hw_20, rfl⟩⟩ := hp_18
        · have hw_20 : c = -1 ∨ fT (kdv S (sPl S pj)) c := by rcases hw_20 with h | h | ⟨h, h2⟩ | ⟨h, h2⟩; exact Or.inl h; exact Or.inr (Or.inl h); exact Or.inr (Or.inr (Or.inl ⟨h2, h⟩)); exact Or.inr (Or.inr (Or.inr ⟨h2, h⟩))
          refine W.eq (g2 := F0 m 48 ls [.int 1]) rfl ?_
          refine lv_if_ne (tgt := 54) hx hb dX4_thing_48 (by decide) (fun _ => ?_) (fun c => absurd c (by decide))
          refine lv_iload hx hb dX4_thing_54 (lv_at hl 0 rfl) ?_
          refine lv_if_eq (tgt := 66) hx hb dX4_thing_56 (by decide) (fun _ => ?_) (fun c => absurd c (by decide))
          obtain ⟨kj, hkj, rfl⟩ := oI_nat (hW.ln (Or.inl hr9)) hi9
          refine lv_iload_n hx hb dX4_thing_66 rfl (lv_at hl 4 rfl) ?_
          refine lv_iconst (v := -1) hx hb dX4_thing_67 (by decide) ?_
          refine lv_icmp_ne (tgt := 89) hx hb dX4_thing_68 (by decide) (fun c_21 => ?_) (fun c_21 => ?_)
          · refine lv_aload_n hx hb dX4_thing_89 rfl (lv_at hl 1 rfl) ?_
            refine wr_get (ci := 3) (C := RX4) (T := TX4) (N := 11) (v := .ref (mC M)) hx hb hts in_X4 hown hT hI hR.1 rfl 7 (by decide) (hts (.fieldLink RX4 22 "CopyRowsModel" "classes" "[I") (by decide +kernel)) rfl dX4_thing_90 ?_
            refine lv_aload_n hx hb dX4_thing_93 rfl (lv_at hl 1 rfl) ?_
            refine wr_get (ci := 3) (C := RX4) (T := TX4) (N := 11) (v := .int (nI (sNt S))) hx hb hts in_X4 hown hT hI hR.1 rfl 6 (by decide) (hts (.fieldLink RX4 96 "CopyRowsModel" "things" "I") (by decide +kernel)) rfl dX4_thing_94 ?_
            refine lv_iload_n hx hb dX4_thing_97 rfl (lv_at hl 4 rfl) ?_
            refine wr_iastN (t := sNt S) (n := 520) (f := sCl S) hx hb hT hI hS hR.2.2.2.2.2.1 (by omega) (by omega) dX4_thing_98 (fun H locs hI hS => ?_)
            have hR := hR.cl (sNt S) (c)
            refine lv_aload_n hx hb dX4_thing_99 rfl (lv_at hl 1 rfl) ?_
            refine wr_get (ci := 3) (C := RX4) (T := TX4) (N := 11) (v := .ref (mN M)) hx hb hts in_X4 hown hT hI hR.1 rfl 8 (by decide) (hts (.fieldLink RX4 25 "CopyRowsModel" "numbers" "[I") (by decide +kernel)) rfl dX4_thing_100 ?_
            refine lv_aload_n hx hb dX4_thing_103 rfl (lv_at hl 1 rfl) ?_
            refine wr_get (ci := 3) (C := RX4) (T := TX4) (N := 11) (v := .int (nI (sNt S))) hx hb hts in_X4 hown hT hI hR.1 rfl 6 (by decide) (hts (.fieldLink RX4 96 "CopyRowsModel" "things" "I") (by decide +kernel)) rfl dX4_thing_104 ?_
            refine lv_iload hx hb dX4_thing_107 (lv_at hl 5 rfl) ?_
            refine wr_iastN (t := sNt S) (n := 520) (f := sNu S) hx hb hT hI hS hR.2.2.2.2.2.2.1 (by omega) (by omega) dX4_thing_109 (fun H locs hI hS => ?_)
            have hR := hR.nu (sNt S) (x)
            refine lv_aload_n hx hb dX4_thing_110 rfl (lv_at hl 1 rfl) ?_
            refine lv_aload_n hx hb dX4_thing_111 rfl (lv_at hl 1 rfl) ?_
            refine wr_get (ci := 3) (C := RX4) (T := TX4) (N := 11) (v := .ref (mP M)) hx hb hts in_X4 hown hT hI hR.1 rfl 1 (by decide) (hts (.fieldLink RX4 7 "CopyRowsModel" "places" "[I") (by decide +kernel)) rfl dX4_thing_112 ?_
            refine lv_iload_n hx hb dX4_thing_115 rfl (lv_at hl 2 rfl) ?_
            refine wr_ialdN (t := pj) (n := 12) (f := plF S) hx hb hT hI hR.2.1 (by omega) (by omega) dX4_thing_116 ?_
            refine W.eq (g2 := F0 m 117 ls [.int (sPl S pj), .ref (mH M)]) (by rw [plF_at (by omega)]) ?_
            refine lv_iload_n hx hb dX4_thing_117 rfl (lv_at hl 3 rfl) ?_
            refine lv_aload_n hx hb dX4_thing_118 rfl (lv_at hl 1 rfl) ?_
            refine wr_get (ci := 3) (C := RX4) (T := TX4) (N := 11) (v := .int (nI (sNt S))) hx hb hts in_X4 hown hT hI hR.1 rfl 6 (by decide) (hts (.fieldLink RX4 96 "CopyRowsModel" "things" "I") (by decide +kernel)) rfl dX4_thing_119 ?_
            refine ca_V (As := [.int (sPl S pj), .int (nI kj), .int (nI (sNt S))]) (rest := []) (r0 := (RX4, TX4, 11)) (ci := 3) ⟨hx, hb, hml, hown, hts⟩ (cM_put l E A _ (S := uNu (uCl S (sNt S) c) (sNt S) x) (nI (sNt S)) hr9 (by have := hW.2.2.2; show sNr S ≤ 512; omega) (by omega) hR) (cwV 3 hts gX4_thing_X4_put rfl rfl rfl (by decide +kernel) ⟨(Nat.le_of_ble_eq_true rfl), (Nat.le_of_ble_eq_true rfl)⟩) hT hI hA hS rfl hR.1 rfl rfl hl.1 (Nat.le_of_ble_eq_true rfl) dX4_thing_122 ⟨(Nat.le_of_ble_eq_true rfl), (Nat.le_of_ble_eq_true rfl)⟩ (fun r w_23 H locs hp_22 hI hS => ?_)
            obtain ⟨rfl, hR⟩ := hp_22
            refine W.eq (g2 := F0 m 125 ls []) rfl ?_
            refine lv_aload_n hx hb dX4_thing_125 rfl (lv_at hl 1 rfl) ?_
            refine lv_dup hx hb dX4_thing_126 rfl ?_
            refine wr_get (ci := 3) (C := RX4) (T := TX4) (N := 11) (v := .int (nI (sNt S))) hx hb hts in_X4 hown hT hI hR.1 rfl 6 (by decide) (hts (.fieldLink RX4 96 "CopyRowsModel" "things" "I") (by decide +kernel)) rfl dX4_thing_127 ?_
            refine lv_iconst (v := 1) hx hb dX4_thing_130 (by decide) ?_
            refine lv_iadd hx hb dX4_thing_131 ?_
            refine W.eq (g2 := F0 m 132 ls [.int (nI ((sNt S) + 1)), .ref (mH M)]) (by rw [show (nI (sNt S) : Int32) + 1 = nI ((sNt S) + 1) from nI_add (sNt S) 1]) ?_
            refine wr_put (ci := 3) (C := RX4) (T := TX4) (N := 11) (v := .int (nI ((sNt S) + 1))) (ty := .int) hx hb hts in_X4 tyX4 tyX4_ok nmX4 hown hT hI hS hR.1 rfl 6 (by decide) (hts (.fieldLink RX4 96 "CopyRowsModel" "things" "I") (by decide +kernel)) rfl (by decide +kernel) rfl rfl (Nat.le_of_ble_eq_true rfl) dX4_thing_132 (fun H locs hI hS => ?_)
            have hR := hR.obj (uNt (uRow (uNu (uCl S (sNt S) c) (sNt S) x) (ix (sPl S pj)) (upd (itv S (sPl S pj)) kj (nI (sNt S)))) ((sNt S) + 1)) rfl rfl rfl rfl rfl rfl
            refine lv_aload_n hx hb dX4_thing_135 rfl (lv_at hl 1 rfl) ?_
            refine lv_iconst (v := 1) hx hb dX4_thing_136 (by decide) ?_
            refine ca_V (As := [.int 1]) (rest := []) (r0 := (RX4, TX4, 11)) (ci := 3) ⟨hx, hb, hml, hown, hts⟩ (cc_X4_yes l E A _ 1 hR) (cwV 1 hts gX4_thing_X4_yes rfl rfl rfl (by decide +kernel) ⟨(Nat.le_of_ble_eq_true rfl), (Nat.le_of_ble_eq_true rfl)⟩) hT hI hA hS rfl hR.1 rfl rfl hl.1 (Nat.le_of_ble_eq_true rfl) dX4_thing_137 ⟨(Nat.le_of_ble_eq_true rfl), (Nat.le_of_ble_eq_true rfl)⟩ (fun r w_26 H locs hp_25 hI hS => ?_)
            obtain ⟨rfl, hR⟩ := hp_25
            refine W.eq (g2 := F0 m 140 ls [.int 1]) rfl ?_
            exact re_i hx hb hr hlocks hT hA hS hI (PoM.of (by
                            unfold sp_thing
                            try simp only [pv_nI hpj, ix_nI (show kj < 2 ^ 31 by omega)]
                            rw [if_neg (fun q9 => q9.elim ho_3 hw_6), if_neg (ez9), if_neg ((not_not_intro hk9)), if_neg (hi9), if_neg (not_not_intro hw_20), if_neg (c_21)]
                            try rfl) hR) (Nat.le_of_ble_eq_true rfl) (Nat.le_of_ble_eq_true rfl) dX4_thing_140
          · refine lv_aload_n hx hb dX4_thing_71 rfl (lv_at hl 1 rfl) ?_
            refine lv_aload_n hx hb dX4_thing_72 rfl (lv_at hl 1 rfl) ?_
            refine wr_get (ci := 3) (C := RX4) (T := TX4) (N := 11) (v := .ref (mP M)) hx hb hts in_X4 hown hT hI hR.1 rfl 1 (by decide) (hts (.fieldLink RX4 7 "CopyRowsModel" "places" "[I") (by decide +kernel)) rfl dX4_thing_73 ?_
            refine lv_iload_n hx hb dX4_thing_76 rfl (lv_at hl 2 rfl) ?_
            refine wr_ialdN (t := pj) (n := 12) (f := plF S) hx hb hT hI hR.2.1 (by omega) (by omega) dX4_thing_77 ?_
            refine W.eq (g2 := F0 m 78 ls [.int (sPl S pj), .ref (mH M)]) (by rw [plF_at (by omega)]) ?_
            refine lv_iload_n hx hb dX4_thing_78 rfl (lv_at hl 3 rfl) ?_
            refine lv_iconst (v := -1) hx hb dX4_thing_79 (by decide) ?_
            refine ca_V (As := [.int (sPl S pj), .int (nI kj), .int (-1)]) (rest := []) (r0 := (RX4, TX4, 11)) (ci := 3) ⟨hx, hb, hml, hown, hts⟩ (cM_put l E A _ (-1) hr9 (by have := hW.2.2.2; show sNr S ≤ 512; omega) (by omega) hR) (cwV 3 hts gX4_thing_X4_put rfl rfl rfl (by decide +kernel) ⟨(Nat.le_of_ble_eq_true rfl), (Nat.le_of_ble_eq_true rfl)⟩) hT hI hA hS rfl hR.1 rfl rfl hl.1 (Nat.le_of_ble_eq_true rfl) dX4_thing_80 ⟨(Nat.le_of_ble_eq_true rfl), (Nat.le_of_ble_eq_true rfl)⟩ (fun r w_28 H locs hp_27 hI hS => ?_)
            obtain ⟨rfl, hR⟩ := hp_27
            refine W.eq (g2 := F0 m 83 ls []) rfl ?_
            refine lv_aload_n hx hb dX4_thing_83 rfl (lv_at hl 1 rfl) ?_
            refine lv_iconst (v := 1) hx hb dX4_thing_84 (by decide) ?_
            refine ca_V (As := [.int 1]) (rest := []) (r0 := (RX4, TX4, 11)) (ci := 3) ⟨hx, hb, hml, hown, hts⟩ (cc_X4_yes l E A _ 1 hR) (cwV 1 hts gX4_thing_X4_yes rfl rfl rfl (by decide +kernel) ⟨(Nat.le_of_ble_eq_true rfl), (Nat.le_of_ble_eq_true rfl)⟩) hT hI hA hS rfl hR.1 rfl rfl hl.1 (Nat.le_of_ble_eq_true rfl) dX4_thing_85 ⟨(Nat.le_of_ble_eq_true rfl), (Nat.le_of_ble_eq_true rfl)⟩ (fun r w_30 H locs hp_29 hI hS => ?_)
            obtain ⟨rfl, hR⟩ := hp_29
            refine W.eq (g2 := F0 m 88 ls [.int 1]) rfl ?_
            exact re_i hx hb hr hlocks hT hA hS hI (PoM.of (by
                            unfold sp_thing
                            try simp only [pv_nI hpj, ix_nI (show kj < 2 ^ 31 by omega)]
                            rw [if_neg (fun q9 => q9.elim ho_3 hw_6), if_neg (ez9), if_neg ((not_not_intro hk9)), if_neg (hi9), if_neg (not_not_intro hw_20), if_pos (c_21)]
                            try rfl) hR) (Nat.le_of_ble_eq_true rfl) (Nat.le_of_ble_eq_true rfl) dX4_thing_88
        · have hw_20 : ¬ (c = -1 ∨ fT (kdv S (sPl S pj)) c) := fun q9 => hw_20 (by rcases q9 with h | h | ⟨h, h2⟩ | ⟨h, h2⟩; exact Or.inl h; exact Or.inr (Or.inl h); exact Or.inr (Or.inr (Or.inl ⟨h2, h⟩)); exact Or.inr (Or.inr (Or.inr ⟨h2, h⟩)))
          refine W.eq (g2 := F0 m 48 ls [.int 0]) rfl ?_
          refine lv_if_ne (tgt := 54) hx hb dX4_thing_48 (by decide) (fun c => absurd c (by decide)) (fun _ => ?_)
          refine lv_iconst (v := 2) hx hb dX4_thing_51 (by decide) ?_
          refine lv_istore (lv' := [(5, .int 2), (0, .ref (mH M)), (1, .int (nI pj)), (2, .int k), (3, .int c), (4, .int x)]) hx hb dX4_thing_52 hl (by decide) rfl (fun ls hl => ?_)
          refine lv_iload hx hb dX4_thing_54 (lv_at hl 0 rfl) ?_
          refine lv_if_eq (tgt := 66) hx hb dX4_thing_56 (by decide) (fun c => absurd c (by decide)) (fun _ => ?_)
          refine lv_aload_n hx hb dX4_thing_59 rfl (lv_at hl 1 rfl) ?_
          refine lv_iload hx hb dX4_thing_60 (lv_at hl 0 rfl) ?_
          refine ca_V (As := [.int 2]) (rest := []) (r0 := (RX4, TX4, 11)) (ci := 3) ⟨hx, hb, hml, hown, hts⟩ (cc_X4_no l E A _ 2 hR) (cwV 1 hts gX4_thing_X4_no rfl rfl rfl (by decide +kernel) ⟨(Nat.le_of_ble_eq_true rfl), (Nat.le_of_ble_eq_true rfl)⟩) hT hI hA hS rfl hR.1 rfl rfl hl.1 (Nat.le_of_ble_eq_true rfl) dX4_thing_62 ⟨(Nat.le_of_ble_eq_true rfl), (Nat.le_of_ble_eq_true rfl)⟩ (fun r w_32 H locs hp_31 hI hS => ?_)
          obtain ⟨rfl, hR⟩ := hp_31
          refine W.eq (g2 := F0 m 65 ls [.int 0]) rfl ?_
          exact re_i hx hb hr hlocks hT hA hS hI (PoM.of (by
                        unfold sp_thing
                        try simp only [pv_nI hpj]
                        rw [if_neg (fun q9 => q9.elim ho_3 hw_6), if_neg (ez9), if_neg ((not_not_intro hk9)), if_neg (hi9), if_pos (hw_20)]
                        try rfl) hR) (Nat.le_of_ble_eq_true rfl) (Nat.le_of_ble_eq_true rfl) dX4_thing_65
    · have hw_6 : c < -1 ∨ ¬ c ≤ 2 := Classical.not_not.mp (fun q9 => hw_6 (cr_iff.mpr q9))
      refine W.eq (g2 := F0 m 18 ls [.int 0]) rfl ?_
      refine lv_if_ne (tgt := 24) hx hb dX4_thing_18 (by decide) (fun c => absurd c (by decide)) (fun _ => ?_)
      refine lv_ldc (v := -2000000001) hx hb hown (hts (.constant RX4 54 (-2000000001)) (by decide +kernel)) dX4_thing_21 ?_
      exact re_i hx hb hr hlocks hT hA hS hI (PoM.of (by
                unfold sp_thing
                rw [if_pos (Or.inr hw_6)]
                try rfl) hR) (Nat.le_of_ble_eq_true rfl) (Nat.le_of_ble_eq_true rfl) dX4_thing_23
  · have ho_3 : oP p := Classical.not_not.mp ho_3
    refine W.eq (g2 := F0 m 4 ls [.int 0]) rfl ?_
    refine lv_if_eq (tgt := 21) hx hb dX4_thing_4 (by decide) (fun _ => ?_) (fun c => absurd c (by decide))
    refine lv_ldc (v := -2000000001) hx hb hown (hts (.constant RX4 54 (-2000000001)) (by decide +kernel)) dX4_thing_21 ?_
    exact re_i hx hb hr hlocks hT hA hS hI (PoM.of (by
            unfold sp_thing
            rw [if_pos (Or.inl ho_3)]
            try rfl) hR) (Nat.le_of_ble_eq_true rfl) (Nat.le_of_ble_eq_true rfl) dX4_thing_23

set_option maxHeartbeats 4000000 in
set_option maxRecDepth 100000 in
theorem cc_X4_hang (l : Launch) (E : En) (A : Nat → Prop) (w : Wd) {S : Sx} {M : Md} {tt : Nat → Int32} (p k o : Int32) (hW : Wf S) (hR : Rm E S M tt w) (hb9 : sNr S < 512 ∧ sNt S < 512 ∧ sNl S < 512) : Ct l yX4_hang wsX4_hang ({ frames := 2, cells := 0, slots := 0, locals := 45 } : Room) E A w [.ref (mH M), .int p, .int k, .int o] (fun r w' => PoM E M (sp_hang S p k o) r w') 0 0 := by
  refine Met.ofW (cc := cX4_hang) (maxL := 5) (ret := (some .int)) (by decide) rfl ?_
  intro pp0 ee0 s m args below meth cc0 s₁ B hml hv
  obtain ⟨rfl, hT, hI, hA⟩ := hv
  have hx := B.exec
  have hb := B.bytes
  have hr := B.returns
  have hts := atoms_spec (ws := wsX4_hang) B.pre
  have hown : s.vm.findClass RX4 = some m.cls := findClass_of_methodNamed B.named
  have hlocks := B.notSynchronized
  have in_X4 : ∀ w ∈ wsX40, w ∈ wsX4_hang := by decide +kernel
  have hS : va_S A s.heap s.heap [] := va_S.rf
  have hl := lv_entry ([.ref (mH M), .int p, .int k, .int o]) (n := 5) (Nat.le_of_ble_eq_true rfl)
  rw [lg_entry_eq]
  generalize (lg_sl ([.ref (mH M), .int p, .int k, .int o]) ++ List.replicate (5 - (lg_sl ([.ref (mH M), .int p, .int k, .int o])).length) Slot.unset).toArray = ls at hl ⊢
  have hl : lv_has ls 5 [(0, .ref (mH M)), (1, .int p), (2, .int k), (3, .int o)] := hl
  refine lv_iload_n hx hb dX4_hang_0 rfl (lv_at hl 1 rfl) ?_
  refine ca_S (As := [.int p]) (rest := []) ⟨hx, hb, hml, hown, hts⟩ (cc_X4_isPlace l E A _ p) (va_cwS 1 hts gX4_hang_X4_isPlace rfl rfl rfl (by decide +kernel) ⟨(Nat.le_of_ble_eq_true rfl), (Nat.le_of_ble_eq_true rfl)⟩) hT hI hA hS rfl rfl hl.1 (Nat.le_of_ble_eq_true rfl) dX4_hang_1 ⟨(Nat.le_of_ble_eq_true rfl), (Nat.le_of_ble_eq_true rfl)⟩ (fun r w_2 H locs hp_1 hI hS => ?_)
  obtain ⟨rfl, ⟨ho_3, rfl⟩ | ⟨ho_3, rfl⟩⟩ := hp_1
  · refine W.eq (g2 := F0 m 4 ls [.int 1]) rfl ?_
    refine lv_if_eq (tgt := 14) hx hb dX4_hang_4 (by decide) (fun c => absurd c (by decide)) (fun _ => ?_)
    refine lv_iload_n hx hb dX4_hang_7 rfl (lv_at hl 3 rfl) ?_
    refine ca_S (As := [.int o]) (rest := []) ⟨hx, hb, hml, hown, hts⟩ (cc_X4_isPlace l E A _ o) (va_cwS 1 hts gX4_hang_X4_isPlace rfl rfl rfl (by decide +kernel) ⟨(Nat.le_of_ble_eq_true rfl), (Nat.le_of_ble_eq_true rfl)⟩) hT hI hA hS rfl rfl hl.1 (Nat.le_of_ble_eq_true rfl) dX4_hang_8 ⟨(Nat.le_of_ble_eq_true rfl), (Nat.le_of_ble_eq_true rfl)⟩ (fun r w_5 H locs hp_4 hI hS => ?_)
    obtain ⟨rfl, ⟨ho_6, rfl⟩ | ⟨ho_6, rfl⟩⟩ := hp_4
    · refine W.eq (g2 := F0 m 11 ls [.int 1]) rfl ?_
      refine lv_if_ne (tgt := 17) hx hb dX4_hang_11 (by decide) (fun _ => ?_) (fun c => absurd c (by decide))
      obtain ⟨pj, hpj, rfl⟩ := isP_nat ho_3
      obtain ⟨oj, hoj, rfl⟩ := isP_nat ho_6
      refine lv_aload_n hx hb dX4_hang_17 rfl (lv_at hl 0 rfl) ?_
      refine lv_iload_n hx hb dX4_hang_18 rfl (lv_at hl 1 rfl) ?_
      refine ca_V (As := [.int (nI pj)]) (rest := []) (r0 := (RX4, TX4, 11)) (ci := 3) ⟨hx, hb, hml, hown, hts⟩ (cc_X4_wantsRow l E A _ (by omega) hW hR) (cwV 1 hts gX4_hang_X4_wantsRow rfl rfl rfl (by decide +kernel) ⟨(Nat.le_of_ble_eq_true rfl), (Nat.le_of_ble_eq_true rfl)⟩) hT hI hA hS rfl hR.1 rfl rfl hl.1 (Nat.le_of_ble_eq_true rfl) dX4_hang_19 ⟨(Nat.le_of_ble_eq_true rfl), (Nat.le_of_ble_eq_true rfl)⟩ (fun r w_8 H locs hp_7 hI hS => ?_)
      obtain ⟨rfl, ⟨ez9, rfl⟩ | ⟨ez9, e69, rfl⟩ | ⟨ez9, hr9, rfl⟩⟩ := hp_7
      · refine W.eq (g2 := F0 m 22 ls [.int 1]) rfl ?_
        refine lv_istore (lv' := [(4, .int 1), (0, .ref (mH M)), (1, .int (nI pj)), (2, .int k), (3, .int (nI oj))]) hx hb dX4_hang_22 hl (by decide) rfl (fun ls hl => ?_)
        refine lv_iload hx hb dX4_hang_24 (lv_at hl 0 rfl) ?_
        refine lv_if_ne (tgt := 59) hx hb dX4_hang_26 (by decide) (fun _ => ?_) (fun c => absurd c (by decide))
        refine lv_iload hx hb dX4_hang_59 (lv_at hl 0 rfl) ?_
        refine lv_if_ne (tgt := 84) hx hb dX4_hang_61 (by decide) (fun _ => ?_) (fun c => absurd c (by decide))
        refine lv_iload hx hb dX4_hang_84 (lv_at hl 0 rfl) ?_
        refine lv_if_eq (tgt := 96) hx hb dX4_hang_86 (by decide) (fun c => absurd c (by decide)) (fun _ => ?_)
        refine lv_aload_n hx hb dX4_hang_89 rfl (lv_at hl 1 rfl) ?_
        refine lv_iload hx hb dX4_hang_90 (lv_at hl 0 rfl) ?_
        refine ca_V (As := [.int 1]) (rest := []) (r0 := (RX4, TX4, 11)) (ci := 3) ⟨hx, hb, hml, hown, hts⟩ (cc_X4_no l E A _ 1 hR) (cwV 1 hts gX4_hang_X4_no rfl rfl rfl (by decide +kernel) ⟨(Nat.le_of_ble_eq_true rfl), (Nat.le_of_ble_eq_true rfl)⟩) hT hI hA hS rfl hR.1 rfl rfl hl.1 (Nat.le_of_ble_eq_true rfl) dX4_hang_92 ⟨(Nat.le_of_ble_eq_true rfl), (Nat.le_of_ble_eq_true rfl)⟩ (fun r w_11 H locs hp_10 hI hS => ?_)
        obtain ⟨rfl, hR⟩ := hp_10
        refine W.eq (g2 := F0 m 95 ls [.int 0]) rfl ?_
        exact re_i hx hb hr hlocks hT hA hS hI (PoM.of (by
                    unfold sp_hang
                    try simp only [pv_nI hpj, pv_nI hoj]
                    rw [if_neg ((fun q => q.elim ho_3 ho_6)), if_pos (ez9)]
                    try rfl) hR) (Nat.le_of_ble_eq_true rfl) (Nat.le_of_ble_eq_true rfl) dX4_hang_95
      · refine W.eq (g2 := F0 m 22 ls [.int 5]) rfl ?_
        refine lv_istore (lv' := [(4, .int 5), (0, .ref (mH M)), (1, .int (nI pj)), (2, .int k), (3, .int (nI oj))]) hx hb dX4_hang_22 hl (by decide) rfl (fun ls hl => ?_)
        refine lv_iload hx hb dX4_hang_24 (lv_at hl 0 rfl) ?_
        refine lv_if_ne (tgt := 59) hx hb dX4_hang_26 (by decide) (fun _ => ?_) (fun c => absurd c (by decide))
        refine lv_iload hx hb dX4_hang_59 (lv_at hl 0 rfl) ?_
        refine lv_if_ne (tgt := 84) hx hb dX4_hang_61 (by decide) (fun _ => ?_) (fun c => absurd c (by decide))
        refine lv_iload hx hb dX4_hang_84 (lv_at hl 0 rfl) ?_
        refine lv_if_eq (tgt := 96) hx hb dX4_hang_86 (by decide) (fun c => absurd c (by decide)) (fun _ => ?_)
        refine lv_aload_n hx hb dX4_hang_89 rfl (lv_at hl 1 rfl) ?_
        refine lv_iload hx hb dX4_hang_90 (lv_at hl 0 rfl) ?_
        refine ca_V (As := [.int 5]) (rest := []) (r0 := (RX4, TX4, 11)) (ci := 3) ⟨hx, hb, hml, hown, hts⟩ (cc_X4_no l E A _ 5 hR) (cwV 1 hts gX4_hang_X4_no rfl rfl rfl (by decide +kernel) ⟨(Nat.le_of_ble_eq_true rfl), (Nat.le_of_ble_eq_true rfl)⟩) hT hI hA hS rfl hR.1 rfl rfl hl.1 (Nat.le_of_ble_eq_true rfl) dX4_hang_92 ⟨(Nat.le_of_ble_eq_true rfl), (Nat.le_of_ble_eq_true rfl)⟩ (fun r w_13 H locs hp_12 hI hS => ?_)
        obtain ⟨rfl, hR⟩ := hp_12
        refine W.eq (g2 := F0 m 95 ls [.int 0]) rfl ?_
        exact re_i hx hb hr hlocks hT hA hS hI (PoM.of (by
                    unfold sp_hang
                    try simp only [pv_nI hpj, pv_nI hoj]
                    rw [if_neg ((fun q => q.elim ho_3 ho_6)), if_neg (ez9), if_pos ((fun q9 => by rw [q9] at e69; exact absurd e69 (by decide)))]
                    try rfl) hR) (Nat.le_of_ble_eq_true rfl) (Nat.le_of_ble_eq_true rfl) dX4_hang_95
      · have hln9 := hW.ln (Or.inl hr9)
        refine W.eq (g2 := F0 m 22 ls [.int 0]) rfl ?_
        refine lv_istore (lv' := [(4, .int 0), (0, .ref (mH M)), (1, .int (nI pj)), (2, .int k), (3, .int (nI oj))]) hx hb dX4_hang_22 hl (by decide) rfl (fun ls hl => ?_)
        refine lv_iload hx hb dX4_hang_24 (lv_at hl 0 rfl) ?_
        refine lv_if_ne (tgt := 59) hx hb dX4_hang_26 (by decide) (fun c => absurd c (by decide)) (fun _ => ?_)
        refine lv_aload_n hx hb dX4_hang_29 rfl (lv_at hl 1 rfl) ?_
        refine lv_iload_n hx hb dX4_hang_30 rfl (lv_at hl 2 rfl) ?_
        refine ca_V (As := [.int (nI pj)]) (rest := []) (r0 := (RX4, TX4, 11)) (ci := 3) ⟨hx, hb, hml, hown, hts⟩ (cc_X4_kindOf l E A _ (by omega) hW hR) (cwV 1 hts gX4_hang_X4_kindOf rfl rfl rfl (by decide +kernel) ⟨(Nat.le_of_ble_eq_true rfl), (Nat.le_of_ble_eq_true rfl)⟩) hT hI hA hS rfl hR.1 rfl rfl hl.1 (Nat.le_of_ble_eq_true rfl) dX4_hang_31 ⟨(Nat.le_of_ble_eq_true rfl), (Nat.le_of_ble_eq_true rfl)⟩ (fun r w_15 H locs hp_14 hI hS => ?_)
        obtain ⟨rfl, rfl⟩ := hp_14
        rw [kp_ne ez9]
        refine W.eq (g2 := F0 m 34 ls [.int (kdv S (sPl S pj))]) rfl ?_
        refine lv_iconst (v := 2) hx hb dX4_hang_34 (by decide) ?_
        refine lv_icmp_ne (tgt := 56) hx hb dX4_hang_35 (by decide) (fun c_16 => ?_) (fun c_16 => ?_)
        · refine lv_iconst (v := 5) hx hb dX4_hang_56 (by decide) ?_
          refine lv_istore (lv' := [(4, .int 5), (0, .ref (mH M)), (1, .int (nI pj)), (2, .int k), (3, .int (nI oj))]) hx hb dX4_hang_57 hl (by decide) rfl (fun ls hl => ?_)
          refine lv_iload hx hb dX4_hang_59 (lv_at hl 0 rfl) ?_
          refine lv_if_ne (tgt := 84) hx hb dX4_hang_61 (by decide) (fun _ => ?_) (fun c => absurd c (by decide))
          refine lv_iload hx hb dX4_hang_84 (lv_at hl 0 rfl) ?_
          refine lv_if_eq (tgt := 96) hx hb dX4_hang_86 (by decide) (fun c => absurd c (by decide)) (fun _ => ?_)
          refine lv_aload_n hx hb dX4_hang_89 rfl (lv_at hl 1 rfl) ?_
          refine lv_iload hx hb dX4_hang_90 (lv_at hl 0 rfl) ?_
          refine ca_V (As := [.int 5]) (rest := []) (r0 := (RX4, TX4, 11)) (ci := 3) ⟨hx, hb, hml, hown, hts⟩ (cc_X4_no l E A _ 5 hR) (cwV 1 hts gX4_hang_X4_no rfl rfl rfl (by decide +kernel) ⟨(Nat.le_of_ble_eq_true rfl), (Nat.le_of_ble_eq_true rfl)⟩) hT hI hA hS rfl hR.1 rfl rfl hl.1 (Nat.le_of_ble_eq_true rfl) dX4_hang_92 ⟨(Nat.le_of_ble_eq_true rfl), (Nat.le_of_ble_eq_true rfl)⟩ (fun r w_18 H locs hp_17 hI hS => ?_)
          obtain ⟨rfl, hR⟩ := hp_17
          refine W.eq (g2 := F0 m 95 ls [.int 0]) rfl ?_
          exact re_i hx hb hr hlocks hT hA hS hI (PoM.of (by
                        unfold sp_hang
                        try simp only [pv_nI hpj, pv_nI hoj]
                        rw [if_neg ((fun q => q.elim ho_3 ho_6)), if_neg (ez9), if_pos (c_16)]
                        try rfl) hR) (Nat.le_of_ble_eq_true rfl) (Nat.le_of_ble_eq_true rfl) dX4_hang_95
        · refine lv_aload_n hx hb dX4_hang_38 rfl (lv_at hl 1 rfl) ?_
          refine lv_iload_n hx hb dX4_hang_39 rfl (lv_at hl 4 rfl) ?_
          refine ca_V (As := [.int (nI oj)]) (rest := []) (r0 := (RX4, TX4, 11)) (ci := 3) ⟨hx, hb, hml, hown, hts⟩ (cc_X4_kindOf l E A _ (by omega) hW hR) (cwV 1 hts gX4_hang_X4_kindOf rfl rfl rfl (by decide +kernel) ⟨(Nat.le_of_ble_eq_true rfl), (Nat.le_of_ble_eq_true rfl)⟩) hT hI hA hS rfl hR.1 rfl rfl hl.1 (Nat.le_of_ble_eq_true rfl) dX4_hang_40 ⟨(Nat.le_of_ble_eq_true rfl), (Nat.le_of_ble_eq_true rfl)⟩ (fun r w_20 H locs hp_19 hI hS => ?_)
          obtain ⟨rfl, rfl⟩ := hp_19
          refine W.eq (g2 := F0 m 43 ls [.int (kp S (sPl S oj))]) rfl ?_
          refine lv_iconst (v := -1) hx hb dX4_hang_43 (by decide) ?_
          refine lv_icmp_eq (tgt := 59) hx hb dX4_hang_44 (by decide) (fun c_21 => ?_) (fun c_21 => ?_)
          · refine lv_iload hx hb dX4_hang_59 (lv_at hl 0 rfl) ?_
            refine lv_if_ne (tgt := 84) hx hb dX4_hang_61 (by decide) (fun c => absurd c (by decide)) (fun _ => ?_)
            refine lv_iload_n hx hb dX4_hang_64 rfl (lv_at hl 3 rfl) ?_
            refine lv_i2l (v := k.toInt64) hx hb dX4_hang_65 rfl ?_
            refine lv_lconst (v := 0) hx hb dX4_hang_66 (by decide) ?_
            refine lv_aload_n hx hb dX4_hang_67 rfl (lv_at hl 1 rfl) ?_
            refine lv_iload_n hx hb dX4_hang_68 rfl (lv_at hl 2 rfl) ?_
            refine ca_V (As := [.int (nI pj)]) (rest := [.long 0, .long k.toInt64]) (r0 := (RX4, TX4, 11)) (ci := 3) ⟨hx, hb, hml, hown, hts⟩ (cc_X4_lengthOf l E A _ (by omega) hW hR hr9) (cwV 1 hts gX4_hang_X4_lengthOf rfl rfl rfl (by decide +kernel) ⟨(Nat.le_of_ble_eq_true rfl), (Nat.le_of_ble_eq_true rfl)⟩) hT hI hA hS rfl hR.1 rfl rfl hl.1 (Nat.le_of_ble_eq_true rfl) dX4_hang_69 ⟨(Nat.le_of_ble_eq_true rfl), (Nat.le_of_ble_eq_true rfl)⟩ (fun r w_23 H locs hp_22 hI hS => ?_)
            obtain ⟨rfl, rfl⟩ := hp_22
            refine W.eq (g2 := F0 m 72 ls [.int (nI (lnv S (sPl S pj))), .long 0, .long k.toInt64]) rfl ?_
            refine lv_iconst (v := 1) hx hb dX4_hang_72 (by decide) ?_
            refine lv_isub hx hb dX4_hang_73 ?_
            refine lv_i2l (v := ((nI (lnv S (sPl S pj))) - 1).toInt64) hx hb dX4_hang_74 rfl ?_
            refine ca_S (As := [.long k.toInt64, .long 0, .long (((nI (lnv S (sPl S pj))) - 1).toInt64)]) (rest := []) ⟨hx, hb, hml, hown, hts⟩ (cc_X4_within l E A _ k.toInt64 0 (((nI (lnv S (sPl S pj))) - 1).toInt64)) (va_cwS 3 hts gX4_hang_X4_within rfl rfl rfl (by decide +kernel) ⟨(Nat.le_of_ble_eq_true rfl), (Nat.le_of_ble_eq_true rfl)⟩) hT hI hA hS rfl rfl hl.1 (Nat.le_of_ble_eq_true rfl) dX4_hang_75 ⟨(Nat.le_of_ble_eq_true rfl), (Nat.le_of_ble_eq_true rfl)⟩ (fun r w_25 H locs hp_24 hI hS => ?_)
            obtain ⟨rfl, ⟨hw_26, rfl⟩ | ⟨hw_26, rfl⟩⟩ := hp_24
            · have hw_26 : ¬ oI (lnv S (sPl S pj)) k := (in_item (hW.ln (Or.inl hr9))).mp hw_26
              refine W.eq (g2 := F0 m 78 ls [.int 1]) rfl ?_
              refine lv_if_ne (tgt := 84) hx hb dX4_hang_78 (by decide) (fun _ => ?_) (fun c => absurd c (by decide))
              refine lv_iload hx hb dX4_hang_84 (lv_at hl 0 rfl) ?_
              refine lv_if_eq (tgt := 96) hx hb dX4_hang_86 (by decide) (fun _ => ?_) (fun c => absurd c (by decide))
              obtain ⟨kj, hkj, rfl⟩ := oI_nat (hW.ln (Or.inl hr9)) hw_26
              refine lv_aload_n hx hb dX4_hang_96 rfl (lv_at hl 1 rfl) ?_
              refine lv_aload_n hx hb dX4_hang_97 rfl (lv_at hl 1 rfl) ?_
              refine wr_get (ci := 3) (C := RX4) (T := TX4) (N := 11) (v := .ref (mP M)) hx hb hts in_X4 hown hT hI hR.1 rfl 1 (by decide) (hts (.fieldLink RX4 7 "CopyRowsModel" "places" "[I") (by decide +kernel)) rfl dX4_hang_98 ?_
              refine lv_iload_n hx hb dX4_hang_101 rfl (lv_at hl 2 rfl) ?_
              refine wr_ialdN (t := pj) (n := 12) (f := plF S) hx hb hT hI hR.2.1 (by omega) (by omega) dX4_hang_102 ?_
              refine W.eq (g2 := F0 m 103 ls [.int (sPl S pj), .ref (mH M)]) (by rw [plF_at (by omega)]) ?_
              refine lv_iload_n hx hb dX4_hang_103 rfl (lv_at hl 3 rfl) ?_
              refine lv_aload_n hx hb dX4_hang_104 rfl (lv_at hl 1 rfl) ?_
              refine wr_get (ci := 3) (C := RX4) (T := TX4) (N := 11) (v := .ref (mP M)) hx hb hts in_X4 hown hT hI hR.1 rfl 1 (by decide) (hts (.fieldLink RX4 7 "CopyRowsModel" "places" "[I") (by decide +kernel)) rfl dX4_hang_105 ?_
              refine lv_iload_n hx hb dX4_hang_108 rfl (lv_at hl 4 rfl) ?_
              refine wr_ialdN (t := oj) (n := 12) (f := plF S) hx hb hT hI hR.2.1 (by omega) (by omega) dX4_hang_109 ?_
              refine W.eq (g2 := F0 m 110 ls [.int (sPl S oj), .int (nI kj), .int (sPl S pj), .ref (mH M)]) (by rw [plF_at (by omega)]) ?_
              refine ca_V (As := [.int (sPl S pj), .int (nI kj), .int (sPl S oj)]) (rest := []) (r0 := (RX4, TX4, 11)) (ci := 3) ⟨hx, hb, hml, hown, hts⟩ (cM_put l E A _ (sPl S oj) hr9 (by have := hW.2.2.2; show sNr S ≤ 512; omega) (by omega) hR) (cwV 3 hts gX4_hang_X4_put rfl rfl rfl (by decide +kernel) ⟨(Nat.le_of_ble_eq_true rfl), (Nat.le_of_ble_eq_true rfl)⟩) hT hI hA hS rfl hR.1 rfl rfl hl.1 (Nat.le_of_ble_eq_true rfl) dX4_hang_110 ⟨(Nat.le_of_ble_eq_true rfl), (Nat.le_of_ble_eq_true rfl)⟩ (fun r w_28 H locs hp_27 hI hS => ?_)
              obtain ⟨rfl, hR⟩ := hp_27
              refine W.eq (g2 := F0 m 113 ls []) rfl ?_
              refine lv_aload_n hx hb dX4_hang_113 rfl (lv_at hl 1 rfl) ?_
              refine lv_iconst (v := 1) hx hb dX4_hang_114 (by decide) ?_
              refine ca_V (As := [.int 1]) (rest := []) (r0 := (RX4, TX4, 11)) (ci := 3) ⟨hx, hb, hml, hown, hts⟩ (cc_X4_yes l E A _ 1 hR) (cwV 1 hts gX4_hang_X4_yes rfl rfl rfl (by decide +kernel) ⟨(Nat.le_of_ble_eq_true rfl), (Nat.le_of_ble_eq_true rfl)⟩) hT hI hA hS rfl hR.1 rfl rfl hl.1 (Nat.le_of_ble_eq_true rfl) dX4_hang_115 ⟨(Nat.le_of_ble_eq_true rfl), (Nat.le_of_ble_eq_true rfl)⟩ (fun r w_30 H locs hp_29 hI hS => ?_)
              obtain ⟨rfl, hR⟩ := hp_29
              refine W.eq (g2 := F0 m 118 ls [.int 1]) rfl ?_
              exact re_i hx hb hr hlocks hT hA hS hI (PoM.of (by
                                unfold sp_hang
                                try simp only [pv_nI hpj, pv_nI hoj, ix_nI (show kj < 2 ^ 31 by omega)]
                                rw [if_neg ((fun q => q.elim ho_3 ho_6)), if_neg (ez9), if_neg (not_not_intro c_16), if_neg (not_not_intro (Or.inl ((kp_m1 hW (hW.1 oj)).mp c_21))), if_neg (hw_26)]
                                try rfl) hR) (Nat.le_of_ble_eq_true rfl) (Nat.le_of_ble_eq_true rfl) dX4_hang_118
            · have hw_26 : oI (lnv S (sPl S pj)) k := Classical.not_not.mp (fun q9 => hw_26 ((in_item (hW.ln (Or.inl hr9))).mpr q9))
              refine W.eq (g2 := F0 m 78 ls [.int 0]) rfl ?_
              refine lv_if_ne (tgt := 84) hx hb dX4_hang_78 (by decide) (fun c => absurd c (by decide)) (fun _ => ?_)
              refine lv_iconst (v := 3) hx hb dX4_hang_81 (by decide) ?_
              refine lv_istore (lv' := [(4, .int 3), (0, .ref (mH M)), (1, .int (nI pj)), (2, .int k), (3, .int (nI oj))]) hx hb dX4_hang_82 hl (by decide) rfl (fun ls hl => ?_)
              refine lv_iload hx hb dX4_hang_84 (lv_at hl 0 rfl) ?_
              refine lv_if_eq (tgt := 96) hx hb dX4_hang_86 (by decide) (fun c => absurd c (by decide)) (fun _ => ?_)
              refine lv_aload_n hx hb dX4_hang_89 rfl (lv_at hl 1 rfl) ?_
              refine lv_iload hx hb dX4_hang_90 (lv_at hl 0 rfl) ?_
              refine ca_V (As := [.int 3]) (rest := []) (r0 := (RX4, TX4, 11)) (ci := 3) ⟨hx, hb, hml, hown, hts⟩ (cc_X4_no l E A _ 3 hR) (cwV 1 hts gX4_hang_X4_no rfl rfl rfl (by decide +kernel) ⟨(Nat.le_of_ble_eq_true rfl), (Nat.le_of_ble_eq_true rfl)⟩) hT hI hA hS rfl hR.1 rfl rfl hl.1 (Nat.le_of_ble_eq_true rfl) dX4_hang_92 ⟨(Nat.le_of_ble_eq_true rfl), (Nat.le_of_ble_eq_true rfl)⟩ (fun r w_32 H locs hp_31 hI hS => ?_)
              obtain ⟨rfl, hR⟩ := hp_31
              refine W.eq (g2 := F0 m 95 ls [.int 0]) rfl ?_
              exact re_i hx hb hr hlocks hT hA hS hI (PoM.of (by
                                unfold sp_hang
                                try simp only [pv_nI hpj, pv_nI hoj]
                                rw [if_neg ((fun q => q.elim ho_3 ho_6)), if_neg (ez9), if_neg (not_not_intro c_16), if_neg (not_not_intro (Or.inl ((kp_m1 hW (hW.1 oj)).mp c_21))), if_pos (hw_26)]
                                try rfl) hR) (Nat.le_of_ble_eq_true rfl) (Nat.le_of_ble_eq_true rfl) dX4_hang_95
          · refine lv_aload_n hx hb dX4_hang_47 rfl (lv_at hl 1 rfl) ?_
            refine lv_iload_n hx hb dX4_hang_48 rfl (lv_at hl 4 rfl) ?_
            refine ca_V (As := [.int (nI oj)]) (rest := []) (r0 := (RX4, TX4, 11)) (ci := 3) ⟨hx, hb, hml, hown, hts⟩ (cc_X4_kindOf l E A _ (by omega) hW hR) (cwV 1 hts gX4_hang_X4_kindOf rfl rfl rfl (by decide +kernel) ⟨(Nat.le_of_ble_eq_true rfl), (Nat.le_of_ble_eq_true rfl)⟩) hT hI hA hS rfl hR.1 rfl rfl hl.1 (Nat.le_of_ble_eq_true rfl) dX4_hang_49 ⟨(Nat.le_of_ble_eq_true rfl), (Nat.le_of_ble_eq_true rfl)⟩ (fun r w_34 H locs hp_33 hI hS => ?_)
            obtain ⟨rfl, rfl⟩ := hp_33
            refine W.eq (g2 := F0 m 52 ls [.int (kp S (sPl S oj))]) rfl ?_
            refine lv_iconst (v := 1) hx hb dX4_hang_52 (by decide) ?_
            refine lv_icmp_eq (tgt := 59) hx hb dX4_hang_53 (by decide) (fun c_35 => ?_) (fun c_35 => ?_)
            · refine lv_iload hx hb dX4_hang_59 (lv_at hl 0 rfl) ?_
              refine lv_if_ne (tgt := 84) hx hb dX4_hang_61 (by decide) (fun c => absurd c (by decide)) (fun _ => ?_)
              refine lv_iload_n hx hb dX4_hang_64 rfl (lv_at hl 3 rfl) ?_
              refine lv_i2l (v := k.toInt64) hx hb dX4_hang_65 rfl ?_
              refine lv_lconst (v := 0) hx hb dX4_hang_66 (by decide) ?_
              refine lv_aload_n hx hb dX4_hang_67 rfl (lv_at hl 1 rfl) ?_
              refine lv_iload_n hx hb dX4_hang_68 rfl (lv_at hl 2 rfl) ?_
              refine ca_V (As := [.int (nI pj)]) (rest := [.long 0, .long k.toInt64]) (r0 := (RX4, TX4, 11)) (ci := 3) ⟨hx, hb, hml, hown, hts⟩ (cc_X4_lengthOf l E A _ (by omega) hW hR hr9) (cwV 1 hts gX4_hang_X4_lengthOf rfl rfl rfl (by decide +kernel) ⟨(Nat.le_of_ble_eq_true rfl), (Nat.le_of_ble_eq_true rfl)⟩) hT hI hA hS rfl hR.1 rfl rfl hl.1 (Nat.le_of_ble_eq_true rfl) dX4_hang_69 ⟨(Nat.le_of_ble_eq_true rfl), (Nat.le_of_ble_eq_true rfl)⟩ (fun r w_37 H locs hp_36 hI hS => ?_)
              obtain ⟨rfl, rfl⟩ := hp_36
              refine W.eq (g2 := F0 m 72 ls [.int (nI (lnv S (sPl S pj))), .long 0, .long k.toInt64]) rfl ?_
              refine lv_iconst (v := 1) hx hb dX4_hang_72 (by decide) ?_
              refine lv_isub hx hb dX4_hang_73 ?_
              refine lv_i2l (v := ((nI (lnv S (sPl S pj))) - 1).toInt64) hx hb dX4_hang_74 rfl ?_
              refine ca_S (As := [.long k.toInt64, .long 0, .long (((nI (lnv S (sPl S pj))) - 1).toInt64)]) (rest := []) ⟨hx, hb, hml, hown, hts⟩ (cc_X4_within l E A _ k.toInt64 0 (((nI (lnv S (sPl S pj))) - 1).toInt64)) (va_cwS 3 hts gX4_hang_X4_within rfl rfl rfl (by decide +kernel) ⟨(Nat.le_of_ble_eq_true rfl), (Nat.le_of_ble_eq_true rfl)⟩) hT hI hA hS rfl rfl hl.1 (Nat.le_of_ble_eq_true rfl) dX4_hang_75 ⟨(Nat.le_of_ble_eq_true rfl), (Nat.le_of_ble_eq_true rfl)⟩ (fun r w_39 H locs hp_38 hI hS => ?_)
              obtain ⟨rfl, ⟨hw_40, rfl⟩ | ⟨hw_40, rfl⟩⟩ := hp_38
              · have hw_40 : ¬ oI (lnv S (sPl S pj)) k := (in_item (hW.ln (Or.inl hr9))).mp hw_40
                refine W.eq (g2 := F0 m 78 ls [.int 1]) rfl ?_
                refine lv_if_ne (tgt := 84) hx hb dX4_hang_78 (by decide) (fun _ => ?_) (fun c => absurd c (by decide))
                refine lv_iload hx hb dX4_hang_84 (lv_at hl 0 rfl) ?_
                refine lv_if_eq (tgt := 96) hx hb dX4_hang_86 (by decide) (fun _ => ?_) (fun c => absurd c (by decide))
                obtain ⟨kj, hkj, rfl⟩ := oI_nat (hW.ln (Or.inl hr9)) hw_40
                refine lv_aload_n hx hb dX4_hang_96 rfl (lv_at hl 1 rfl) ?_
                refine lv_aload_n hx hb dX4_hang_97 rfl (lv_at hl 1 rfl) ?_
                refine wr_get (ci := 3) (C := RX4) (T := TX4) (N := 11) (v := .ref (mP M)) hx hb hts in_X4 hown hT hI hR.1 rfl 1 (by decide) (hts (.fieldLink RX4 7 "CopyRowsModel" "places" "[I") (by decide +kernel)) rfl dX4_hang_98 ?_
                refine lv_iload_n hx hb dX4_hang_101 rfl (lv_at hl 2 rfl) ?_
                refine wr_ialdN (t := pj) (n := 12) (f := plF S) hx hb hT hI hR.2.1 (by omega) (by omega) dX4_hang_102 ?_
                refine W.eq (g2 := F0 m 103 ls [.int (sPl S pj), .ref (mH M)]) (by rw [plF_at (by omega)]) ?_
                refine lv_iload_n hx hb dX4_hang_103 rfl (lv_at hl 3 rfl) ?_
                refine lv_aload_n hx hb dX4_hang_104 rfl (lv_at hl 1 rfl) ?_
                refine wr_get (ci := 3) (C := RX4) (T := TX4) (N := 11) (v := .ref (mP M)) hx hb hts in_X4 hown hT hI hR.1 rfl 1 (by decide) (hts (.fieldLink RX4 7 "CopyRowsModel" "places" "[I") (by decide +kernel)) rfl dX4_hang_105 ?_
                refine lv_iload_n hx hb dX4_hang_108 rfl (lv_at hl 4 rfl) ?_
                refine wr_ialdN (t := oj) (n := 12) (f := plF S) hx hb hT hI hR.2.1 (by omega) (by omega) dX4_hang_109 ?_
                refine W.eq (g2 := F0 m 110 ls [.int (sPl S oj), .int (nI kj), .int (sPl S pj), .ref (mH M)]) (by rw [plF_at (by omega)]) ?_
                refine ca_V (As := [.int (sPl S pj), .int (nI kj), .int (sPl S oj)]) (rest := []) (r0 := (RX4, TX4, 11)) (ci := 3) ⟨hx, hb, hml, hown, hts⟩ (cM_put l E A _ (sPl S oj) hr9 (by have := hW.2.2.2; show sNr S ≤ 512; omega) (by omega) hR) (cwV 3 hts gX4_hang_X4_put rfl rfl rfl (by decide +kernel) ⟨(Nat.le_of_ble_eq_true rfl), (Nat.le_of_ble_eq_true rfl)⟩) hT hI hA hS rfl hR.1 rfl rfl hl.1 (Nat.le_of_ble_eq_true rfl) dX4_hang_110 ⟨(Nat.le_of_ble_eq_true rfl), (Nat.le_of_ble_eq_true rfl)⟩ (fun r w_42 H locs hp_41 hI hS => ?_)
                obtain ⟨rfl, hR⟩ := hp_41
                refine W.eq (g2 := F0 m 113 ls []) rfl ?_
                refine lv_aload_n hx hb dX4_hang_113 rfl (lv_at hl 1 rfl) ?_
                refine lv_iconst (v := 1) hx hb dX4_hang_114 (by decide) ?_
                refine ca_V (As := [.int 1]) (rest := []) (r0 := (RX4, TX4, 11)) (ci := 3) ⟨hx, hb, hml, hown, hts⟩ (cc_X4_yes l E A _ 1 hR) (cwV 1 hts gX4_hang_X4_yes rfl rfl rfl (by decide +kernel) ⟨(Nat.le_of_ble_eq_true rfl), (Nat.le_of_ble_eq_true rfl)⟩) hT hI hA hS rfl hR.1 rfl rfl hl.1 (Nat.le_of_ble_eq_true rfl) dX4_hang_115 ⟨(Nat.le_of_ble_eq_true rfl), (Nat.le_of_ble_eq_true rfl)⟩ (fun r w_44 H locs hp_43 hI hS => ?_)
                obtain ⟨rfl, hR⟩ := hp_43
                refine W.eq (g2 := F0 m 118 ls [.int 1]) rfl ?_
                exact re_i hx hb hr hlocks hT hA hS hI (PoM.of (by
                                    unfold sp_hang
                                    try simp only [pv_nI hpj, pv_nI hoj, ix_nI (show kj < 2 ^ 31 by omega)]
                                    rw [if_neg ((fun q => q.elim ho_3 ho_6)), if_neg (ez9), if_neg (not_not_intro c_16), if_neg (not_not_intro (Or.inr (by rw [← kp_ne (fun e9 => c_21 ((kp_m1 hW (hW.1 oj)).mpr e9))]; exact c_35))), if_neg (hw_40)]
                                    try rfl) hR) (Nat.le_of_ble_eq_true rfl) (Nat.le_of_ble_eq_true rfl) dX4_hang_118
              · have hw_40 : oI (lnv S (sPl S pj)) k := Classical.not_not.mp (fun q9 => hw_40 ((in_item (hW.ln (Or.inl hr9))).mpr q9))
                refine W.eq (g2 := F0 m 78 ls [.int 0]) rfl ?_
                refine lv_if_ne (tgt := 84) hx hb dX4_hang_78 (by decide) (fun c => absurd c (by decide)) (fun _ => ?_)
                refine lv_iconst (v := 3) hx hb dX4_hang_81 (by decide) ?_
                refine lv_istore (lv' := [(4, .int 3), (0, .ref (mH M)), (1, .int (nI pj)), (2, .int k), (3, .int (nI oj))]) hx hb dX4_hang_82 hl (by decide) rfl (fun ls hl => ?_)
                refine lv_iload hx hb dX4_hang_84 (lv_at hl 0 rfl) ?_
                refine lv_if_eq (tgt := 96) hx hb dX4_hang_86 (by decide) (fun c => absurd c (by decide)) (fun _ => ?_)
                refine lv_aload_n hx hb dX4_hang_89 rfl (lv_at hl 1 rfl) ?_
                refine lv_iload hx hb dX4_hang_90 (lv_at hl 0 rfl) ?_
                refine ca_V (As := [.int 3]) (rest := []) (r0 := (RX4, TX4, 11)) (ci := 3) ⟨hx, hb, hml, hown, hts⟩ (cc_X4_no l E A _ 3 hR) (cwV 1 hts gX4_hang_X4_no rfl rfl rfl (by decide +kernel) ⟨(Nat.le_of_ble_eq_true rfl), (Nat.le_of_ble_eq_true rfl)⟩) hT hI hA hS rfl hR.1 rfl rfl hl.1 (Nat.le_of_ble_eq_true rfl) dX4_hang_92 ⟨(Nat.le_of_ble_eq_true rfl), (Nat.le_of_ble_eq_true rfl)⟩ (fun r w_46 H locs hp_45 hI hS => ?_)
                obtain ⟨rfl, hR⟩ := hp_45
                refine W.eq (g2 := F0 m 95 ls [.int 0]) rfl ?_
                exact re_i hx hb hr hlocks hT hA hS hI (PoM.of (by
                                    unfold sp_hang
                                    try simp only [pv_nI hpj, pv_nI hoj]
                                    rw [if_neg ((fun q => q.elim ho_3 ho_6)), if_neg (ez9), if_neg (not_not_intro c_16), if_neg (not_not_intro (Or.inr (by rw [← kp_ne (fun e9 => c_21 ((kp_m1 hW (hW.1 oj)).mpr e9))]; exact c_35))), if_pos (hw_40)]
                                    try rfl) hR) (Nat.le_of_ble_eq_true rfl) (Nat.le_of_ble_eq_true rfl) dX4_hang_95
            · refine lv_iconst (v := 5) hx hb dX4_hang_56 (by decide) ?_
              refine lv_istore (lv' := [(4, .int 5), (0, .ref (mH M)), (1, .int (nI pj)), (2, .int k), (3, .int (nI oj))]) hx hb dX4_hang_57 hl (by decide) rfl (fun ls hl => ?_)
              refine lv_iload hx hb dX4_hang_59 (lv_at hl 0 rfl) ?_
              refine lv_if_ne (tgt := 84) hx hb dX4_hang_61 (by decide) (fun _ => ?_) (fun c => absurd c (by decide))
              refine lv_iload hx hb dX4_hang_84 (lv_at hl 0 rfl) ?_
              refine lv_if_eq (tgt := 96) hx hb dX4_hang_86 (by decide) (fun c => absurd c (by decide)) (fun _ => ?_)
              refine lv_aload_n hx hb dX4_hang_89 rfl (lv_at hl 1 rfl) ?_
              refine lv_iload hx hb dX4_hang_90 (lv_at hl 0 rfl) ?_
              refine ca_V (As := [.int 5]) (rest := []) (r0 := (RX4, TX4, 11)) (ci := 3) ⟨hx, hb, hml, hown, hts⟩ (cc_X4_no l E A _ 5 hR) (cwV 1 hts gX4_hang_X4_no rfl rfl rfl (by decide +kernel) ⟨(Nat.le_of_ble_eq_true rfl), (Nat.le_of_ble_eq_true rfl)⟩) hT hI hA hS rfl hR.1 rfl rfl hl.1 (Nat.le_of_ble_eq_true rfl) dX4_hang_92 ⟨(Nat.le_of_ble_eq_true rfl), (Nat.le_of_ble_eq_true rfl)⟩ (fun r w_48 H locs hp_47 hI hS => ?_)
              obtain ⟨rfl, hR⟩ := hp_47
              refine W.eq (g2 := F0 m 95 ls [.int 0]) rfl ?_
              exact re_i hx hb hr hlocks hT hA hS hI (PoM.of (by
                                unfold sp_hang
                                try simp only [pv_nI hpj, pv_nI hoj]
                                rw [if_neg ((fun q => q.elim ho_3 ho_6)), if_neg (ez9), if_neg (not_not_intro c_16), if_pos (fun q9 => q9.elim (fun e9 => c_21 ((kp_m1 hW (hW.1 oj)).mpr e9)) (fun q9 => c_35 (by rw [kp_ne (fun e9 => c_21 ((kp_m1 hW (hW.1 oj)).mpr e9))]; exact q9)))]
                                try rfl) hR) (Nat.le_of_ble_eq_true rfl) (Nat.le_of_ble_eq_true rfl) dX4_hang_95
    · have ho_6 : oP o := Classical.not_not.mp ho_6
      refine W.eq (g2 := F0 m 11 ls [.int 0]) rfl ?_
      refine lv_if_ne (tgt := 17) hx hb dX4_hang_11 (by decide) (fun c => absurd c (by decide)) (fun _ => ?_)
      refine lv_ldc (v := -2000000001) hx hb hown (hts (.constant RX4 54 (-2000000001)) (by decide +kernel)) dX4_hang_14 ?_
      exact re_i hx hb hr hlocks hT hA hS hI (PoM.of (by
                unfold sp_hang
                rw [if_pos (Or.inr (ho_6))]
                try rfl) hR) (Nat.le_of_ble_eq_true rfl) (Nat.le_of_ble_eq_true rfl) dX4_hang_16
  · have ho_3 : oP p := Classical.not_not.mp ho_3
    refine W.eq (g2 := F0 m 4 ls [.int 0]) rfl ?_
    refine lv_if_eq (tgt := 14) hx hb dX4_hang_4 (by decide) (fun _ => ?_) (fun c => absurd c (by decide))
    refine lv_ldc (v := -2000000001) hx hb hown (hts (.constant RX4 54 (-2000000001)) (by decide +kernel)) dX4_hang_14 ?_
    exact re_i hx hb hr hlocks hT hA hS hI (PoM.of (by
            unfold sp_hang
            rw [if_pos (Or.inl ho_3)]
            try rfl) hR) (Nat.le_of_ble_eq_true rfl) (Nat.le_of_ble_eq_true rfl) dX4_hang_16

set_option maxHeartbeats 4000000 in
set_option maxRecDepth 100000 in
theorem cc_X4_item (l : Launch) (E : En) (A : Nat → Prop) (w : Wd) {S : Sx} {M : Md} {tt : Nat → Int32} (p k : Int32) (hW : Wf S) (hR : Rm E S M tt w) (hb9 : sNr S < 512 ∧ sNt S < 512 ∧ sNl S < 512) : Ct l yX4_item wsX4_item ({ frames := 2, cells := 0, slots := 0, locals := 50 } : Room) E A w [.ref (mH M), .int p, .int k] (fun r w' => PoM E M (sp_item S p k) r w') 0 0 := by
  refine Met.ofW (cc := cX4_item) (maxL := 6) (ret := (some .int)) (by decide) rfl ?_
  intro pp0 ee0 s m args below meth cc0 s₁ B hml hv
  obtain ⟨rfl, hT, hI, hA⟩ := hv
  have hx := B.exec
  have hb := B.bytes
  have hr := B.returns
  have hts := atoms_spec (ws := wsX4_item) B.pre
  have hown : s.vm.findClass RX4 = some m.cls := findClass_of_methodNamed B.named
  have hlocks := B.notSynchronized
  have in_X4 : ∀ w ∈ wsX40, w ∈ wsX4_item := by decide +kernel
  have hS : va_S A s.heap s.heap [] := va_S.rf
  have hl := lv_entry ([.ref (mH M), .int p, .int k]) (n := 6) (Nat.le_of_ble_eq_true rfl)
  rw [lg_entry_eq]
  generalize (lg_sl ([.ref (mH M), .int p, .int k]) ++ List.replicate (6 - (lg_sl ([.ref (mH M), .int p, .int k])).length) Slot.unset).toArray = ls at hl ⊢
  have hl : lv_has ls 6 [(0, .ref (mH M)), (1, .int p), (2, .int k)] := hl
  refine lv_iload_n hx hb dX4_item_0 rfl (lv_at hl 1 rfl) ?_
  refine ca_S (As := [.int p]) (rest := []) ⟨hx, hb, hml, hown, hts⟩ (cc_X4_isPlace l E A _ p) (va_cwS 1 hts gX4_item_X4_isPlace rfl rfl rfl (by decide +kernel) ⟨(Nat.le_of_ble_eq_true rfl), (Nat.le_of_ble_eq_true rfl)⟩) hT hI hA hS rfl rfl hl.1 (Nat.le_of_ble_eq_true rfl) dX4_item_1 ⟨(Nat.le_of_ble_eq_true rfl), (Nat.le_of_ble_eq_true rfl)⟩ (fun r w_2 H locs hp_1 hI hS => ?_)
  obtain ⟨rfl, ⟨ho_3, rfl⟩ | ⟨ho_3, rfl⟩⟩ := hp_1
  · refine W.eq (g2 := F0 m 4 ls [.int 1]) rfl ?_
    refine lv_if_ne (tgt := 10) hx hb dX4_item_4 (by decide) (fun _ => ?_) (fun c => absurd c (by decide))
    obtain ⟨pj, hpj, rfl⟩ := isP_nat ho_3
    refine lv_aload_n hx hb dX4_item_10 rfl (lv_at hl 0 rfl) ?_
    refine lv_iload_n hx hb dX4_item_11 rfl (lv_at hl 1 rfl) ?_
    refine lv_iconst (v := 0) hx hb dX4_item_12 (by decide) ?_
    refine lv_iconst (v := 5) hx hb dX4_item_13 (by decide) ?_
    refine lv_iload_n hx hb dX4_item_14 rfl (lv_at hl 2 rfl) ?_
    refine ca_V (As := [.int (nI pj), .int 0, .int 5, .int k]) (rest := []) (r0 := (RX4, TX4, 11)) (ci := 3) ⟨hx, hb, hml, hown, hts⟩ (cc_X4_wantsItem l E A _ (by omega) 0 5 k hW hR) (cwV 4 hts gX4_item_X4_wantsItem rfl rfl rfl (by decide +kernel) ⟨(Nat.le_of_ble_eq_true rfl), (Nat.le_of_ble_eq_true rfl)⟩) hT hI hA hS rfl hR.1 rfl rfl hl.1 (Nat.le_of_ble_eq_true rfl) dX4_item_15 ⟨(Nat.le_of_ble_eq_true rfl), (Nat.le_of_ble_eq_true rfl)⟩ (fun r w_5 H locs hp_4 hI hS => ?_)
    obtain ⟨rfl, ⟨ez6, rfl⟩ | ⟨ez6, hk6, rfl⟩ | ⟨ez6, hk6, hi6, rfl⟩ | ⟨ez6, hk6, hi6, rfl⟩⟩ := hp_4
    · refine W.eq (g2 := F0 m 18 ls [.int 1]) rfl ?_
      refine lv_istore_n (lv' := [(3, .int 1), (0, .ref (mH M)), (1, .int (nI pj)), (2, .int k)]) hx hb dX4_item_18 rfl hl (by decide) rfl (fun ls hl => ?_)
      refine lv_iload_n hx hb dX4_item_19 rfl (lv_at hl 0 rfl) ?_
      refine lv_if_eq (tgt := 29) hx hb dX4_item_20 (by decide) (fun c => absurd c (by decide)) (fun _ => ?_)
      refine lv_aload_n hx hb dX4_item_23 rfl (lv_at hl 1 rfl) ?_
      refine lv_iload_n hx hb dX4_item_24 rfl (lv_at hl 0 rfl) ?_
      refine ca_V (As := [.int 1]) (rest := []) (r0 := (RX4, TX4, 11)) (ci := 3) ⟨hx, hb, hml, hown, hts⟩ (cc_X4_no l E A _ 1 hR) (cwV 1 hts gX4_item_X4_no rfl rfl rfl (by decide +kernel) ⟨(Nat.le_of_ble_eq_true rfl), (Nat.le_of_ble_eq_true rfl)⟩) hT hI hA hS rfl hR.1 rfl rfl hl.1 (Nat.le_of_ble_eq_true rfl) dX4_item_25 ⟨(Nat.le_of_ble_eq_true rfl), (Nat.le_of_ble_eq_true rfl)⟩ (fun r w_8 H locs hp_7 hI hS => ?_)
      obtain ⟨rfl, hR⟩ := hp_7
      refine W.eq (g2 := F0 m 28 ls [.int 0]) rfl ?_
      exact re_i hx hb hr hlocks hT hA hS hI (PoM.of (by
                unfold sp_item
                try simp only [pv_nI hpj]
                rw [if_neg (ho_3), if_pos (ez6)]
                try rfl) hR) (Nat.le_of_ble_eq_true rfl) (Nat.le_of_ble_eq_true rfl) dX4_item_28
    · have hk6 : kdv S (sPl S pj) = 6 := Classical.not_not.mp (fun q9 => hk6 ((wi05 hW ((hW.1 pj).resolve_left ez6)).mpr q9))
      refine W.eq (g2 := F0 m 18 ls [.int 5]) rfl ?_
      refine lv_istore_n (lv' := [(3, .int 5), (0, .ref (mH M)), (1, .int (nI pj)), (2, .int k)]) hx hb dX4_item_18 rfl hl (by decide) rfl (fun ls hl => ?_)
      refine lv_iload_n hx hb dX4_item_19 rfl (lv_at hl 0 rfl) ?_
      refine lv_if_eq (tgt := 29) hx hb dX4_item_20 (by decide) (fun c => absurd c (by decide)) (fun _ => ?_)
      refine lv_aload_n hx hb dX4_item_23 rfl (lv_at hl 1 rfl) ?_
      refine lv_iload_n hx hb dX4_item_24 rfl (lv_at hl 0 rfl) ?_
      refine ca_V (As := [.int 5]) (rest := []) (r0 := (RX4, TX4, 11)) (ci := 3) ⟨hx, hb, hml, hown, hts⟩ (cc_X4_no l E A _ 5 hR) (cwV 1 hts gX4_item_X4_no rfl rfl rfl (by decide +kernel) ⟨(Nat.le_of_ble_eq_true rfl), (Nat.le_of_ble_eq_true rfl)⟩) hT hI hA hS rfl hR.1 rfl rfl hl.1 (Nat.le_of_ble_eq_true rfl) dX4_item_25 ⟨(Nat.le_of_ble_eq_true rfl), (Nat.le_of_ble_eq_true rfl)⟩ (fun r w_10 H locs hp_9 hI hS => ?_)
      obtain ⟨rfl, hR⟩ := hp_9
      refine W.eq (g2 := F0 m 28 ls [.int 0]) rfl ?_
      exact re_i hx hb hr hlocks hT hA hS hI (PoM.of (by
                unfold sp_item
                try simp only [pv_nI hpj]
                rw [if_neg (ho_3), if_neg (ez6), if_pos (hk6)]
                try rfl) hR) (Nat.le_of_ble_eq_true rfl) (Nat.le_of_ble_eq_true rfl) dX4_item_28
    · have hr6 := hk6.1
      have hln6 := hW.ln (Or.inl hr6)
      have hk6 : ¬ kdv S (sPl S pj) = 6 := (wi05 hW ((hW.1 pj).resolve_left ez6)).mp hk6
      refine W.eq (g2 := F0 m 18 ls [.int 3]) rfl ?_
      refine lv_istore_n (lv' := [(3, .int 3), (0, .ref (mH M)), (1, .int (nI pj)), (2, .int k)]) hx hb dX4_item_18 rfl hl (by decide) rfl (fun ls hl => ?_)
      refine lv_iload_n hx hb dX4_item_19 rfl (lv_at hl 0 rfl) ?_
      refine lv_if_eq (tgt := 29) hx hb dX4_item_20 (by decide) (fun c => absurd c (by decide)) (fun _ => ?_)
      refine lv_aload_n hx hb dX4_item_23 rfl (lv_at hl 1 rfl) ?_
      refine lv_iload_n hx hb dX4_item_24 rfl (lv_at hl 0 rfl) ?_
      refine ca_V (As := [.int 3]) (rest := []) (r0 := (RX4, TX4, 11)) (ci := 3) ⟨hx, hb, hml, hown, hts⟩ (cc_X4_no l E A _ 3 hR) (cwV 1 hts gX4_item_X4_no rfl rfl rfl (by decide +kernel) ⟨(Nat.le_of_ble_eq_true rfl), (Nat.le_of_ble_eq_true rfl)⟩) hT hI hA hS rfl hR.1 rfl rfl hl.1 (Nat.le_of_ble_eq_true rfl) dX4_item_25 ⟨(Nat.le_of_ble_eq_true rfl), (Nat.le_of_ble_eq_true rfl)⟩ (fun r w_12 H locs hp_11 hI hS => ?_)
      obtain ⟨rfl, hR⟩ := hp_11
      refine W.eq (g2 := F0 m 28 ls [.int 0]) rfl ?_
      exact re_i hx hb hr hlocks hT hA hS hI (PoM.of (by
                unfold sp_item
                try simp only [pv_nI hpj]
                rw [if_neg (ho_3), if_neg (ez6), if_neg (hk6), if_pos (hi6)]
                try rfl) hR) (Nat.le_of_ble_eq_true rfl) (Nat.le_of_ble_eq_true rfl) dX4_item_28
    · have hr6 := hk6.1
      have hln6 := hW.ln (Or.inl hr6)
      have hk6 : ¬ kdv S (sPl S pj) = 6 := (wi05 hW ((hW.1 pj).resolve_left ez6)).mp hk6
      refine W.eq (g2 := F0 m 18 ls [.int 0]) rfl ?_
      refine lv_istore_n (lv' := [(3, .int 0), (0, .ref (mH M)), (1, .int (nI pj)), (2, .int k)]) hx hb dX4_item_18 rfl hl (by decide) rfl (fun ls hl => ?_)
      refine lv_iload_n hx hb dX4_item_19 rfl (lv_at hl 0 rfl) ?_
      refine lv_if_eq (tgt := 29) hx hb dX4_item_20 (by decide) (fun _ => ?_) (fun c => absurd c (by decide))
      obtain ⟨kj, hkj, rfl⟩ := oI_nat (hW.ln (Or.inl hr6)) hi6
      refine lv_aload_n hx hb dX4_item_29 rfl (lv_at hl 1 rfl) ?_
      refine lv_aload_n hx hb dX4_item_30 rfl (lv_at hl 1 rfl) ?_
      refine wr_get (ci := 3) (C := RX4) (T := TX4) (N := 11) (v := .ref (mP M)) hx hb hts in_X4 hown hT hI hR.1 rfl 1 (by decide) (hts (.fieldLink RX4 7 "CopyRowsModel" "places" "[I") (by decide +kernel)) rfl dX4_item_31 ?_
      refine lv_iload_n hx hb dX4_item_34 rfl (lv_at hl 2 rfl) ?_
      refine wr_ialdN (t := pj) (n := 12) (f := plF S) hx hb hT hI hR.2.1 (by omega) (by omega) dX4_item_35 ?_
      refine W.eq (g2 := F0 m 36 ls [.int (sPl S pj), .ref (mH M)]) (by rw [plF_at (by omega)]) ?_
      refine lv_iload_n hx hb dX4_item_36 rfl (lv_at hl 3 rfl) ?_
      refine ca_V (As := [.int (sPl S pj), .int (nI kj)]) (rest := []) (r0 := (RX4, TX4, 11)) (ci := 3) ⟨hx, hb, hml, hown, hts⟩ (cM_get l E A _ hr6 (by have := hW.2.2.2; omega) (by omega) hR) (cwV 2 hts gX4_item_X4_get rfl rfl rfl (by decide +kernel) ⟨(Nat.le_of_ble_eq_true rfl), (Nat.le_of_ble_eq_true rfl)⟩) hT hI hA hS rfl hR.1 rfl rfl hl.1 (Nat.le_of_ble_eq_true rfl) dX4_item_37 ⟨(Nat.le_of_ble_eq_true rfl), (Nat.le_of_ble_eq_true rfl)⟩ (fun r w_14 H locs hp_13 hI hS => ?_)
      obtain ⟨rfl, rfl⟩ := hp_13
      refine W.eq (g2 := F0 m 40 ls [.int (itv S (sPl S pj) kj)]) rfl ?_
      refine lv_istore (lv' := [(4, .int (itv S (sPl S pj) kj)), (3, .int 0), (0, .ref (mH M)), (1, .int (nI pj)), (2, .int (nI kj))]) hx hb dX4_item_40 hl (by decide) rfl (fun ls hl => ?_)
      refine lv_aload_n hx hb dX4_item_42 rfl (lv_at hl 2 rfl) ?_
      refine lv_iload_n hx hb dX4_item_43 rfl (lv_at hl 3 rfl) ?_
      refine ca_V (As := [.int (nI pj)]) (rest := []) (r0 := (RX4, TX4, 11)) (ci := 3) ⟨hx, hb, hml, hown, hts⟩ (cc_X4_kindOf l E A _ (by omega) hW hR) (cwV 1 hts gX4_item_X4_kindOf rfl rfl rfl (by decide +kernel) ⟨(Nat.le_of_ble_eq_true rfl), (Nat.le_of_ble_eq_true rfl)⟩) hT hI hA hS rfl hR.1 rfl rfl hl.1 (Nat.le_of_ble_eq_true rfl) dX4_item_44 ⟨(Nat.le_of_ble_eq_true rfl), (Nat.le_of_ble_eq_true rfl)⟩ (fun r w_16 H locs hp_15 hI hS => ?_)
      obtain ⟨rfl, rfl⟩ := hp_15
      rw [kp_ne ez6]
      refine W.eq (g2 := F0 m 47 ls [.int (kdv S (sPl S pj))]) rfl ?_
      refine lv_istore (lv' := [(5, .int (kdv S (sPl S pj))), (4, .int (itv S (sPl S pj) kj)), (3, .int 0), (0, .ref (mH M)), (1, .int (nI pj)), (2, .int (nI kj))]) hx hb dX4_item_47 hl (by decide) rfl (fun ls hl => ?_)
      refine lv_iload hx hb dX4_item_49 (lv_at hl 0 rfl) ?_
      refine lv_iconst (v := 2) hx hb dX4_item_51 (by decide) ?_
      refine lv_icmp_ge (tgt := 62) hx hb dX4_item_52 (by decide) (fun c_17 => ?_) (fun c_17 => ?_)
      · have c_17 : ¬ isN (kdv S (sPl S pj)) := fun q9 => Int32.not_lt.mpr c_17 ((lt2 (hW.kd (Or.inl hr6))).mpr q9)
        refine lv_iload hx hb dX4_item_62 (lv_at hl 1 rfl) ?_
        refine lv_iconst (v := -1) hx hb dX4_item_64 (by decide) ?_
        refine lv_icmp_ne (tgt := 74) hx hb dX4_item_65 (by decide) (fun c_18 => ?_) (fun c_18 => ?_)
        · refine lv_aload_n hx hb dX4_item_74 rfl (lv_at hl 3 rfl) ?_
          refine lv_iload hx hb dX4_item_75 (lv_at hl 0 rfl) ?_
          refine lv_iconst (v := 2) hx hb dX4_item_77 (by decide) ?_
          refine lv_icmp_ne (tgt := 91) hx hb dX4_item_78 (by decide) (fun c_19 => ?_) (fun c_19 => ?_)
          · have hx9 := ((hW.row hr6).2.2.2 (kd_ge3 hW hr6 c_17 c_19) kj).resolve_left c_18
            refine lv_aload_n hx hb dX4_item_91 rfl (lv_at hl 3 rfl) ?_
            refine wr_get (ci := 3) (C := RX4) (T := TX4) (N := 11) (v := .ref (mN M)) hx hb hts in_X4 hown hT hI hR.1 rfl 8 (by decide) (hts (.fieldLink RX4 25 "CopyRowsModel" "numbers" "[I") (by decide +kernel)) rfl dX4_item_92 ?_
            refine lv_iload hx hb dX4_item_95 (lv_at hl 1 rfl) ?_
            refine W.eq (g2 := F0 m 97 ls [.int (nI (ix (itv S (sPl S pj) kj))), .ref (mN M), .ref (mH M)]) (by rw [nI_ix hx9.1]) ?_
            refine wr_ialdN (t := ix (itv S (sPl S pj) kj)) (n := 520) (f := sNu S) hx hb hT hI hR.2.2.2.2.2.2.1 (by have h9 := hx9.2; have h8 := hW.2.2.2; omega) (by omega) dX4_item_97 ?_
            refine ca_V (As := [.int (sNu S (ix (itv S (sPl S pj) kj)))]) (rest := []) (r0 := (RX4, TX4, 11)) (ci := 3) ⟨hx, hb, hml, hown, hts⟩ (cc_X4_yes l E A _ (sNu S (ix (itv S (sPl S pj) kj))) hR) (cwV 1 hts gX4_item_X4_yes rfl rfl rfl (by decide +kernel) ⟨(Nat.le_of_ble_eq_true rfl), (Nat.le_of_ble_eq_true rfl)⟩) hT hI hA hS rfl hR.1 rfl rfl hl.1 (Nat.le_of_ble_eq_true rfl) dX4_item_98 ⟨(Nat.le_of_ble_eq_true rfl), (Nat.le_of_ble_eq_true rfl)⟩ (fun r w_21 H locs hp_20 hI hS => ?_)
            obtain ⟨rfl, hR⟩ := hp_20
            refine W.eq (g2 := F0 m 101 ls [.int (sNu S (ix (itv S (sPl S pj) kj)))]) rfl ?_
            exact re_i hx hb hr hlocks hT hA hS hI (PoM.of (by
                            unfold sp_item
                            try simp only [pv_nI hpj, ix_nI (show kj < 2 ^ 31 by omega)]
                            rw [if_neg (ho_3), if_neg (ez6), if_neg (hk6), if_neg (hi6), if_neg (c_17), if_neg (c_18)]
                            rw [if_neg c_19]
                            try rfl) hR) (Nat.le_of_ble_eq_true rfl) (Nat.le_of_ble_eq_true rfl) dX4_item_101
          · have hx9 := (((hW.row hr6).2.2.1 c_19 kj).resolve_left c_18).1
            refine lv_aload_n hx hb dX4_item_81 rfl (lv_at hl 3 rfl) ?_
            refine wr_get (ci := 3) (C := RX4) (T := TX4) (N := 11) (v := .ref (mL M)) hx hb hts in_X4 hown hT hI hR.1 rfl 4 (by decide) (hts (.fieldLink RX4 16 "CopyRowsModel" "lengths" "[I") (by decide +kernel)) rfl dX4_item_82 ?_
            refine lv_iload hx hb dX4_item_85 (lv_at hl 1 rfl) ?_
            refine W.eq (g2 := F0 m 87 ls [.int (nI (ix (itv S (sPl S pj) kj))), .ref (mL M), .ref (mH M)]) (by rw [nI_ix hx9.1]) ?_
            refine wr_ialdN (t := ix (itv S (sPl S pj) kj)) (n := 520) (f := lnF S) hx hb hT hI hR.2.2.2.1 (by have h9 := hx9.2; have h8 := hW.2.2.2; omega) (by omega) dX4_item_87 ?_
            refine W.eq (g2 := F0 m 88 ls [.int (nI (lnv S (itv S (sPl S pj) kj))), .ref (mH M)]) (by rw [lnv_r hx9]; rfl) ?_
            refine lv_goto (tgt := 98) hx hb dX4_item_88 (by decide) ?_
            refine ca_V (As := [.int (nI (lnv S (itv S (sPl S pj) kj)))]) (rest := []) (r0 := (RX4, TX4, 11)) (ci := 3) ⟨hx, hb, hml, hown, hts⟩ (cc_X4_yes l E A _ (nI (lnv S (itv S (sPl S pj) kj))) hR) (cwV 1 hts gX4_item_X4_yes rfl rfl rfl (by decide +kernel) ⟨(Nat.le_of_ble_eq_true rfl), (Nat.le_of_ble_eq_true rfl)⟩) hT hI hA hS rfl hR.1 rfl rfl hl.1 (Nat.le_of_ble_eq_true rfl) dX4_item_98 ⟨(Nat.le_of_ble_eq_true rfl), (Nat.le_of_ble_eq_true rfl)⟩ (fun r w_23 H locs hp_22 hI hS => ?_)
            obtain ⟨rfl, hR⟩ := hp_22
            refine W.eq (g2 := F0 m 101 ls [.int (nI (lnv S (itv S (sPl S pj) kj)))]) rfl ?_
            exact re_i hx hb hr hlocks hT hA hS hI (PoM.of (by
                            unfold sp_item
                            try simp only [pv_nI hpj, ix_nI (show kj < 2 ^ 31 by omega)]
                            rw [if_neg (ho_3), if_neg (ez6), if_neg (hk6), if_neg (hi6), if_neg (c_17), if_neg (c_18)]
                            rw [if_pos c_19]
                            try rfl) hR) (Nat.le_of_ble_eq_true rfl) (Nat.le_of_ble_eq_true rfl) dX4_item_101
        · refine lv_aload_n hx hb dX4_item_68 rfl (lv_at hl 3 rfl) ?_
          refine lv_iconst (v := 1) hx hb dX4_item_69 (by decide) ?_
          refine ca_V (As := [.int 1]) (rest := []) (r0 := (RX4, TX4, 11)) (ci := 3) ⟨hx, hb, hml, hown, hts⟩ (cc_X4_no l E A _ 1 hR) (cwV 1 hts gX4_item_X4_no rfl rfl rfl (by decide +kernel) ⟨(Nat.le_of_ble_eq_true rfl), (Nat.le_of_ble_eq_true rfl)⟩) hT hI hA hS rfl hR.1 rfl rfl hl.1 (Nat.le_of_ble_eq_true rfl) dX4_item_70 ⟨(Nat.le_of_ble_eq_true rfl), (Nat.le_of_ble_eq_true rfl)⟩ (fun r w_25 H locs hp_24 hI hS => ?_)
          obtain ⟨rfl, hR⟩ := hp_24
          refine W.eq (g2 := F0 m 73 ls [.int 0]) rfl ?_
          exact re_i hx hb hr hlocks hT hA hS hI (PoM.of (by
                        unfold sp_item
                        try simp only [pv_nI hpj, ix_nI (show kj < 2 ^ 31 by omega)]
                        rw [if_neg (ho_3), if_neg (ez6), if_neg (hk6), if_neg (hi6), if_neg (c_17), if_pos (c_18)]
                        try rfl) hR) (Nat.le_of_ble_eq_true rfl) (Nat.le_of_ble_eq_true rfl) dX4_item_73
      · have c_17 : isN (kdv S (sPl S pj)) := (lt2 (hW.kd (Or.inl hr6))).mp (Int32.not_le.mp c_17)
        refine lv_aload_n hx hb dX4_item_55 rfl (lv_at hl 3 rfl) ?_
        refine lv_iload hx hb dX4_item_56 (lv_at hl 1 rfl) ?_
        refine ca_V (As := [.int (itv S (sPl S pj) kj)]) (rest := []) (r0 := (RX4, TX4, 11)) (ci := 3) ⟨hx, hb, hml, hown, hts⟩ (cc_X4_yes l E A _ (itv S (sPl S pj) kj) hR) (cwV 1 hts gX4_item_X4_yes rfl rfl rfl (by decide +kernel) ⟨(Nat.le_of_ble_eq_true rfl), (Nat.le_of_ble_eq_true rfl)⟩) hT hI hA hS rfl hR.1 rfl rfl hl.1 (Nat.le_of_ble_eq_true rfl) dX4_item_58 ⟨(Nat.le_of_ble_eq_true rfl), (Nat.le_of_ble_eq_true rfl)⟩ (fun r w_27 H locs hp_26 hI hS => ?_)
        obtain ⟨rfl, hR⟩ := hp_26
        refine W.eq (g2 := F0 m 61 ls [.int (itv S (sPl S pj) kj)]) rfl ?_
        exact re_i hx hb hr hlocks hT hA hS hI (PoM.of (by
                    unfold sp_item
                    try simp only [pv_nI hpj, ix_nI (show kj < 2 ^ 31 by omega)]
                    rw [if_neg (ho_3), if_neg (ez6), if_neg (hk6), if_neg (hi6), if_pos (c_17)]
                    try rfl) hR) (Nat.le_of_ble_eq_true rfl) (Nat.le_of_ble_eq_true rfl) dX4_item_61
  · have ho_3 : oP p := Classical.not_not.mp ho_3
    refine W.eq (g2 := F0 m 4 ls [.int 0]) rfl ?_
    refine lv_if_ne (tgt := 10) hx hb dX4_item_4 (by decide) (fun c => absurd c (by decide)) (fun _ => ?_)
    refine lv_ldc (v := -2000000001) hx hb hown (hts (.constant RX4 54 (-2000000001)) (by decide +kernel)) dX4_item_7 ?_
    exact re_i hx hb hr hlocks hT hA hS hI (PoM.of (by
            unfold sp_item
            rw [if_pos (ho_3)]
            try rfl) hR) (Nat.le_of_ble_eq_true rfl) (Nat.le_of_ble_eq_true rfl) dX4_item_9

set_option maxHeartbeats 4000000 in
set_option maxRecDepth 100000 in
theorem cc_X4_classOf (l : Launch) (E : En) (A : Nat → Prop) (w : Wd) {S : Sx} {M : Md} {tt : Nat → Int32} (p k : Int32) (hW : Wf S) (hR : Rm E S M tt w) (hb9 : sNr S < 512 ∧ sNt S < 512 ∧ sNl S < 512) : Ct l yX4_classOf wsX4_classOf ({ frames := 2, cells := 0, slots := 0, locals := 50 } : Room) E A w [.ref (mH M), .int p, .int k] (fun r w' => PoM E M (sp_classOf S p k) r w') 0 0 := by
  refine Met.ofW (cc := cX4_classOf) (maxL := 5) (ret := (some .int)) (by decide) rfl ?_
  intro pp0 ee0 s m args below meth cc0 s₁ B hml hv
  obtain ⟨rfl, hT, hI, hA⟩ := hv
  have hx := B.exec
  have hb := B.bytes
  have hr := B.returns
  have hts := atoms_spec (ws := wsX4_classOf) B.pre
  have hown : s.vm.findClass RX4 = some m.cls := findClass_of_methodNamed B.named
  have hlocks := B.notSynchronized
  have in_X4 : ∀ w ∈ wsX40, w ∈ wsX4_classOf := by decide +kernel
  have hS : va_S A s.heap s.heap [] := va_S.rf
  have hl := lv_entry ([.ref (mH M), .int p, .int k]) (n := 5) (Nat.le_of_ble_eq_true rfl)
  rw [lg_entry_eq]
  generalize (lg_sl ([.ref (mH M), .int p, .int k]) ++ List.replicate (5 - (lg_sl ([.ref (mH M), .int p, .int k])).length) Slot.unset).toArray = ls at hl ⊢
  have hl : lv_has ls 5 [(0, .ref (mH M)), (1, .int p), (2, .int k)] := hl
  refine lv_iload_n hx hb dX4_classOf_0 rfl (lv_at hl 1 rfl) ?_
  refine ca_S (As := [.int p]) (rest := []) ⟨hx, hb, hml, hown, hts⟩ (cc_X4_isPlace l E A _ p) (va_cwS 1 hts gX4_classOf_X4_isPlace rfl rfl rfl (by decide +kernel) ⟨(Nat.le_of_ble_eq_true rfl), (Nat.le_of_ble_eq_true rfl)⟩) hT hI hA hS rfl rfl hl.1 (Nat.le_of_ble_eq_true rfl) dX4_classOf_1 ⟨(Nat.le_of_ble_eq_true rfl), (Nat.le_of_ble_eq_true rfl)⟩ (fun r w_2 H locs hp_1 hI hS => ?_)
  obtain ⟨rfl, ⟨ho_3, rfl⟩ | ⟨ho_3, rfl⟩⟩ := hp_1
  · refine W.eq (g2 := F0 m 4 ls [.int 1]) rfl ?_
    refine lv_if_ne (tgt := 10) hx hb dX4_classOf_4 (by decide) (fun _ => ?_) (fun c => absurd c (by decide))
    obtain ⟨pj, hpj, rfl⟩ := isP_nat ho_3
    refine lv_aload_n hx hb dX4_classOf_10 rfl (lv_at hl 0 rfl) ?_
    refine lv_iload_n hx hb dX4_classOf_11 rfl (lv_at hl 1 rfl) ?_
    refine lv_iconst (v := 3) hx hb dX4_classOf_12 (by decide) ?_
    refine lv_iconst (v := 5) hx hb dX4_classOf_13 (by decide) ?_
    refine lv_iload_n hx hb dX4_classOf_14 rfl (lv_at hl 2 rfl) ?_
    refine ca_V (As := [.int (nI pj), .int 3, .int 5, .int k]) (rest := []) (r0 := (RX4, TX4, 11)) (ci := 3) ⟨hx, hb, hml, hown, hts⟩ (cc_X4_wantsItem l E A _ (by omega) 3 5 k hW hR) (cwV 4 hts gX4_classOf_X4_wantsItem rfl rfl rfl (by decide +kernel) ⟨(Nat.le_of_ble_eq_true rfl), (Nat.le_of_ble_eq_true rfl)⟩) hT hI hA hS rfl hR.1 rfl rfl hl.1 (Nat.le_of_ble_eq_true rfl) dX4_classOf_15 ⟨(Nat.le_of_ble_eq_true rfl), (Nat.le_of_ble_eq_true rfl)⟩ (fun r w_5 H locs hp_4 hI hS => ?_)
    obtain ⟨rfl, ⟨ez6, rfl⟩ | ⟨ez6, hk6, rfl⟩ | ⟨ez6, hk6, hi6, rfl⟩ | ⟨ez6, hk6, hi6, rfl⟩⟩ := hp_4
    · refine W.eq (g2 := F0 m 18 ls [.int 1]) rfl ?_
      refine lv_istore_n (lv' := [(3, .int 1), (0, .ref (mH M)), (1, .int (nI pj)), (2, .int k)]) hx hb dX4_classOf_18 rfl hl (by decide) rfl (fun ls hl => ?_)
      refine lv_iload_n hx hb dX4_classOf_19 rfl (lv_at hl 0 rfl) ?_
      refine lv_if_eq (tgt := 29) hx hb dX4_classOf_20 (by decide) (fun c => absurd c (by decide)) (fun _ => ?_)
      refine lv_aload_n hx hb dX4_classOf_23 rfl (lv_at hl 1 rfl) ?_
      refine lv_iload_n hx hb dX4_classOf_24 rfl (lv_at hl 0 rfl) ?_
      refine ca_V (As := [.int 1]) (rest := []) (r0 := (RX4, TX4, 11)) (ci := 3) ⟨hx, hb, hml, hown, hts⟩ (cc_X4_no l E A _ 1 hR) (cwV 1 hts gX4_classOf_X4_no rfl rfl rfl (by decide +kernel) ⟨(Nat.le_of_ble_eq_true rfl), (Nat.le_of_ble_eq_true rfl)⟩) hT hI hA hS rfl hR.1 rfl rfl hl.1 (Nat.le_of_ble_eq_true rfl) dX4_classOf_25 ⟨(Nat.le_of_ble_eq_true rfl), (Nat.le_of_ble_eq_true rfl)⟩ (fun r w_8 H locs hp_7 hI hS => ?_)
      obtain ⟨rfl, hR⟩ := hp_7
      refine W.eq (g2 := F0 m 28 ls [.int 0]) rfl ?_
      exact re_i hx hb hr hlocks hT hA hS hI (PoM.of (by
                unfold sp_classOf
                try simp only [pv_nI hpj]
                rw [if_neg (ho_3), if_pos (ez6)]
                try rfl) hR) (Nat.le_of_ble_eq_true rfl) (Nat.le_of_ble_eq_true rfl) dX4_classOf_28
    · have hk6 : ¬ (kT (kdv S (sPl S pj))) := fun q9 => hk6 ((wi35 hW ((hW.1 pj).resolve_left ez6)).mpr q9)
      refine W.eq (g2 := F0 m 18 ls [.int 5]) rfl ?_
      refine lv_istore_n (lv' := [(3, .int 5), (0, .ref (mH M)), (1, .int (nI pj)), (2, .int k)]) hx hb dX4_classOf_18 rfl hl (by decide) rfl (fun ls hl => ?_)
      refine lv_iload_n hx hb dX4_classOf_19 rfl (lv_at hl 0 rfl) ?_
      refine lv_if_eq (tgt := 29) hx hb dX4_classOf_20 (by decide) (fun c => absurd c (by decide)) (fun _ => ?_)
      refine lv_aload_n hx hb dX4_classOf_23 rfl (lv_at hl 1 rfl) ?_
      refine lv_iload_n hx hb dX4_classOf_24 rfl (lv_at hl 0 rfl) ?_
      refine ca_V (As := [.int 5]) (rest := []) (r0 := (RX4, TX4, 11)) (ci := 3) ⟨hx, hb, hml, hown, hts⟩ (cc_X4_no l E A _ 5 hR) (cwV 1 hts gX4_classOf_X4_no rfl rfl rfl (by decide +kernel) ⟨(Nat.le_of_ble_eq_true rfl), (Nat.le_of_ble_eq_true rfl)⟩) hT hI hA hS rfl hR.1 rfl rfl hl.1 (Nat.le_of_ble_eq_true rfl) dX4_classOf_25 ⟨(Nat.le_of_ble_eq_true rfl), (Nat.le_of_ble_eq_true rfl)⟩ (fun r w_10 H locs hp_9 hI hS => ?_)
      obtain ⟨rfl, hR⟩ := hp_9
      refine W.eq (g2 := F0 m 28 ls [.int 0]) rfl ?_
      exact re_i hx hb hr hlocks hT hA hS hI (PoM.of (by
                unfold sp_classOf
                try simp only [pv_nI hpj]
                rw [if_neg (ho_3), if_neg (ez6), if_pos (hk6)]
                try rfl) hR) (Nat.le_of_ble_eq_true rfl) (Nat.le_of_ble_eq_true rfl) dX4_classOf_28
    · have hr6 := hk6.1
      have hln6 := hW.ln (Or.inl hr6)
      have hk6 : kT (kdv S (sPl S pj)) := (wi35 hW ((hW.1 pj).resolve_left ez6)).mp hk6
      refine W.eq (g2 := F0 m 18 ls [.int 3]) rfl ?_
      refine lv_istore_n (lv' := [(3, .int 3), (0, .ref (mH M)), (1, .int (nI pj)), (2, .int k)]) hx hb dX4_classOf_18 rfl hl (by decide) rfl (fun ls hl => ?_)
      refine lv_iload_n hx hb dX4_classOf_19 rfl (lv_at hl 0 rfl) ?_
      refine lv_if_eq (tgt := 29) hx hb dX4_classOf_20 (by decide) (fun c => absurd c (by decide)) (fun _ => ?_)
      refine lv_aload_n hx hb dX4_classOf_23 rfl (lv_at hl 1 rfl) ?_
      refine lv_iload_n hx hb dX4_classOf_24 rfl (lv_at hl 0 rfl) ?_
      refine ca_V (As := [.int 3]) (rest := []) (r0 := (RX4, TX4, 11)) (ci := 3) ⟨hx, hb, hml, hown, hts⟩ (cc_X4_no l E A _ 3 hR) (cwV 1 hts gX4_classOf_X4_no rfl rfl rfl (by decide +kernel) ⟨(Nat.le_of_ble_eq_true rfl), (Nat.le_of_ble_eq_true rfl)⟩) hT hI hA hS rfl hR.1 rfl rfl hl.1 (Nat.le_of_ble_eq_true rfl) dX4_classOf_25 ⟨(Nat.le_of_ble_eq_true rfl), (Nat.le_of_ble_eq_true rfl)⟩ (fun r w_12 H locs hp_11 hI hS => ?_)
      obtain ⟨rfl, hR⟩ := hp_11
      refine W.eq (g2 := F0 m 28 ls [.int 0]) rfl ?_
      exact re_i hx hb hr hlocks hT hA hS hI (PoM.of (by
                unfold sp_classOf
                try simp only [pv_nI hpj]
                rw [if_neg (ho_3), if_neg (ez6), if_neg ((not_not_intro hk6)), if_pos (hi6)]
                try rfl) hR) (Nat.le_of_ble_eq_true rfl) (Nat.le_of_ble_eq_true rfl) dX4_classOf_28
    · have hr6 := hk6.1
      have hln6 := hW.ln (Or.inl hr6)
      have hk6 : kT (kdv S (sPl S pj)) := (wi35 hW ((hW.1 pj).resolve_left ez6)).mp hk6
      refine W.eq (g2 := F0 m 18 ls [.int 0]) rfl ?_
      refine lv_istore_n (lv' := [(3, .int 0), (0, .ref (mH M)), (1, .int (nI pj)), (2, .int k)]) hx hb dX4_classOf_18 rfl hl (by decide) rfl (fun ls hl => ?_)
      refine lv_iload_n hx hb dX4_classOf_19 rfl (lv_at hl 0 rfl) ?_
      refine lv_if_eq (tgt := 29) hx hb dX4_classOf_20 (by decide) (fun _ => ?_) (fun c => absurd c (by decide))
      obtain ⟨kj, hkj, rfl⟩ := oI_nat (hW.ln (Or.inl hr6)) hi6
      refine lv_aload_n hx hb dX4_classOf_29 rfl (lv_at hl 1 rfl) ?_
      refine lv_aload_n hx hb dX4_classOf_30 rfl (lv_at hl 1 rfl) ?_
      refine wr_get (ci := 3) (C := RX4) (T := TX4) (N := 11) (v := .ref (mP M)) hx hb hts in_X4 hown hT hI hR.1 rfl 1 (by decide) (hts (.fieldLink RX4 7 "CopyRowsModel" "places" "[I") (by decide +kernel)) rfl dX4_classOf_31 ?_
      refine lv_iload_n hx hb dX4_classOf_34 rfl (lv_at hl 2 rfl) ?_
      refine wr_ialdN (t := pj) (n := 12) (f := plF S) hx hb hT hI hR.2.1 (by omega) (by omega) dX4_classOf_35 ?_
      refine W.eq (g2 := F0 m 36 ls [.int (sPl S pj), .ref (mH M)]) (by rw [plF_at (by omega)]) ?_
      refine lv_iload_n hx hb dX4_classOf_36 rfl (lv_at hl 3 rfl) ?_
      refine ca_V (As := [.int (sPl S pj), .int (nI kj)]) (rest := []) (r0 := (RX4, TX4, 11)) (ci := 3) ⟨hx, hb, hml, hown, hts⟩ (cM_get l E A _ hr6 (by have := hW.2.2.2; omega) (by omega) hR) (cwV 2 hts gX4_classOf_X4_get rfl rfl rfl (by decide +kernel) ⟨(Nat.le_of_ble_eq_true rfl), (Nat.le_of_ble_eq_true rfl)⟩) hT hI hA hS rfl hR.1 rfl rfl hl.1 (Nat.le_of_ble_eq_true rfl) dX4_classOf_37 ⟨(Nat.le_of_ble_eq_true rfl), (Nat.le_of_ble_eq_true rfl)⟩ (fun r w_14 H locs hp_13 hI hS => ?_)
      obtain ⟨rfl, rfl⟩ := hp_13
      refine W.eq (g2 := F0 m 40 ls [.int (itv S (sPl S pj) kj)]) rfl ?_
      refine lv_istore (lv' := [(4, .int (itv S (sPl S pj) kj)), (3, .int 0), (0, .ref (mH M)), (1, .int (nI pj)), (2, .int (nI kj))]) hx hb dX4_classOf_40 hl (by decide) rfl (fun ls hl => ?_)
      refine lv_aload_n hx hb dX4_classOf_42 rfl (lv_at hl 2 rfl) ?_
      refine lv_iload hx hb dX4_classOf_43 (lv_at hl 0 rfl) ?_
      refine lv_iconst (v := -1) hx hb dX4_classOf_45 (by decide) ?_
      refine lv_icmp_ne (tgt := 53) hx hb dX4_classOf_46 (by decide) (fun c_15 => ?_) (fun c_15 => ?_)
      · have hx9 := ((hW.row hr6).2.2.2 (by rcases hk6 with h | h | h <;> rw [h] <;> decide) kj).resolve_left c_15
        refine lv_aload_n hx hb dX4_classOf_53 rfl (lv_at hl 2 rfl) ?_
        refine wr_get (ci := 3) (C := RX4) (T := TX4) (N := 11) (v := .ref (mC M)) hx hb hts in_X4 hown hT hI hR.1 rfl 7 (by decide) (hts (.fieldLink RX4 22 "CopyRowsModel" "classes" "[I") (by decide +kernel)) rfl dX4_classOf_54 ?_
        refine lv_iload hx hb dX4_classOf_57 (lv_at hl 0 rfl) ?_
        refine W.eq (g2 := F0 m 59 ls [.int (nI (ix (itv S (sPl S pj) kj))), .ref (mC M), .ref (mH M)]) (by rw [nI_ix hx9.1]) ?_
        refine wr_ialdN (t := ix (itv S (sPl S pj) kj)) (n := 520) (f := sCl S) hx hb hT hI hR.2.2.2.2.2.1 (by have h9 := hx9.2; have h8 := hW.2.2.2; omega) (by omega) dX4_classOf_59 ?_
        refine ca_V (As := [.int (sCl S (ix (itv S (sPl S pj) kj)))]) (rest := []) (r0 := (RX4, TX4, 11)) (ci := 3) ⟨hx, hb, hml, hown, hts⟩ (cc_X4_yes l E A _ (sCl S (ix (itv S (sPl S pj) kj))) hR) (cwV 1 hts gX4_classOf_X4_yes rfl rfl rfl (by decide +kernel) ⟨(Nat.le_of_ble_eq_true rfl), (Nat.le_of_ble_eq_true rfl)⟩) hT hI hA hS rfl hR.1 rfl rfl hl.1 (Nat.le_of_ble_eq_true rfl) dX4_classOf_60 ⟨(Nat.le_of_ble_eq_true rfl), (Nat.le_of_ble_eq_true rfl)⟩ (fun r w_17 H locs hp_16 hI hS => ?_)
        obtain ⟨rfl, hR⟩ := hp_16
        refine W.eq (g2 := F0 m 63 ls [.int (sCl S (ix (itv S (sPl S pj) kj)))]) rfl ?_
        exact re_i hx hb hr hlocks hT hA hS hI (PoM.of (by
                    unfold sp_classOf
                    try simp only [pv_nI hpj, ix_nI (show kj < 2 ^ 31 by omega)]
                    rw [if_neg (ho_3), if_neg (ez6), if_neg ((not_not_intro hk6)), if_neg (hi6)]
                    rw [if_neg c_15]
                    try rfl) hR) (Nat.le_of_ble_eq_true rfl) (Nat.le_of_ble_eq_true rfl) dX4_classOf_63
      · refine lv_iconst (v := -1) hx hb dX4_classOf_49 (by decide) ?_
        refine lv_goto (tgt := 60) hx hb dX4_classOf_50 (by decide) ?_
        refine ca_V (As := [.int (-1)]) (rest := []) (r0 := (RX4, TX4, 11)) (ci := 3) ⟨hx, hb, hml, hown, hts⟩ (cc_X4_yes l E A _ (-1) hR) (cwV 1 hts gX4_classOf_X4_yes rfl rfl rfl (by decide +kernel) ⟨(Nat.le_of_ble_eq_true rfl), (Nat.le_of_ble_eq_true rfl)⟩) hT hI hA hS rfl hR.1 rfl rfl hl.1 (Nat.le_of_ble_eq_true rfl) dX4_classOf_60 ⟨(Nat.le_of_ble_eq_true rfl), (Nat.le_of_ble_eq_true rfl)⟩ (fun r w_19 H locs hp_18 hI hS => ?_)
        obtain ⟨rfl, hR⟩ := hp_18
        refine W.eq (g2 := F0 m 63 ls [.int (-1)]) rfl ?_
        exact re_i hx hb hr hlocks hT hA hS hI (PoM.of (by
                    unfold sp_classOf
                    try simp only [pv_nI hpj, ix_nI (show kj < 2 ^ 31 by omega)]
                    rw [if_neg (ho_3), if_neg (ez6), if_neg ((not_not_intro hk6)), if_neg (hi6)]
                    rw [if_pos c_15]
                    try rfl) hR) (Nat.le_of_ble_eq_true rfl) (Nat.le_of_ble_eq_true rfl) dX4_classOf_63
  · have ho_3 : oP p := Classical.not_not.mp ho_3
    refine W.eq (g2 := F0 m 4 ls [.int 0]) rfl ?_
    refine lv_if_ne (tgt := 10) hx hb dX4_classOf_4 (by decide) (fun c => absurd c (by decide)) (fun _ => ?_)
    refine lv_ldc (v := -2000000001) hx hb hown (hts (.constant RX4 54 (-2000000001)) (by decide +kernel)) dX4_classOf_7 ?_
    exact re_i hx hb hr hlocks hT hA hS hI (PoM.of (by
            unfold sp_classOf
            rw [if_pos (ho_3)]
            try rfl) hR) (Nat.le_of_ble_eq_true rfl) (Nat.le_of_ble_eq_true rfl) dX4_classOf_9
