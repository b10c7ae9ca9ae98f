theorem cM_get (l : Launch) (E : En) (A : Nat → Prop) (w : Wd) {S : Sx} {M : Md} {tt : Nat → Int32} {v : Int32} {k : Nat} (hv : vR S v) (hn : sNr S ≤ 512) (hk : k < 40) (hR : Rm E S M tt w) : Ct l yX4_get wsX4_get ({ frames := 0, cells := 0, slots := 0, locals := 0 } : Room) E A w [.ref (mH M), .int v, .int (nI k)] (fun r w' => w = w' ∧ r = some (.int (itv S v k))) 0 0 := by
  have h := cc_X4_get l E A w (S := S) (M := M) (tt := tt) (r9 := ix v) (k := k) (by have := hv.2; omega) hk hR
  rw [nI_ix hv.1] at h
  rw [itv_r hv]
  exact h
theorem cM_put (l : Launch) (E : En) (A : Nat → Prop) (w : Wd) {S : Sx} {M : Md} {tt : Nat → Int32} {v : Int32} {k : Nat} (x : Int32) (hv : vR S v) (hn : sNr S ≤ 512) (hk : k < 40) (hR : Rm E S M tt w) : Ct l yX4_put wsX4_put ({ frames := 0, cells := 0, slots := 0, locals := 0 } : Room) E A w [.ref (mH M), .int v, .int (nI k), .int x] (fun r w' => r = none ∧ Rm E (uRow S (ix v) (upd (itv S v) k x)) M tt w') 0 0 := by
  have h := cc_X4_put l E A w (S := S) (M := M) (tt := tt) (r9 := ix v) (k := k) (by have := hv.2; omega) hk x hR
  rw [nI_ix hv.1] at h
  rw [itv_r hv]
  exact h
set_option maxHeartbeats 4000000 in
set_option maxRecDepth 100000 in
theorem cc_X4_newRow (l : Launch) (E : En) (A : Nat → Prop) (w : Wd) {S : Sx} {M : Md} {tt : Nat → Int32} (k : Int32) (n : Nat) (hk : k < 2 ↔ isN k) (hb9 : sNr S < 520) (hR : Rm E S M tt w) : Ct l yX4_newRow wsX4_newRow ({ frames := 1, cells := 0, slots := 0, locals := 23 } : Room) E A w [.ref (mH M), .int k, .int (nI n)] (fun r w' => r = some (.int (nI (sNr S))) ∧ Rm E (uNew S k n (ini k)) M tt w') 0 0 := by
  refine Met.ofW (cc := cX4_newRow) (maxL := 4) (ret := (some .int)) (by decide) rfl ?_
  intro pp0 ee0 s m args below meth cc0 s₁ B hml hv
  obtain ⟨rfl, hT, hI, hA⟩ := hv
  have hx := B.exec
  have hb := B.bytes
  have hr := B.returns
  have hts := atoms_spec (ws := wsX4_newRow) B.pre
  have hown : s.vm.findClass RX4 = some m.cls := findClass_of_methodNamed B.named
  have hlocks := B.notSynchronized
  have in_X4 : ∀ w ∈ wsX40, w ∈ wsX4_newRow := by decide +kernel
  have hS : va_S A s.heap s.heap [] := va_S.rf
  have hl := lv_entry ([.ref (mH M), .int k, .int (nI n)]) (n := 4) (Nat.le_of_ble_eq_true rfl)
  rw [lg_entry_eq]
  generalize (lg_sl ([.ref (mH M), .int k, .int (nI n)]) ++ List.replicate (4 - (lg_sl ([.ref (mH M), .int k, .int (nI n)])).length) Slot.unset).toArray = ls at hl ⊢
  have hl : lv_has ls 4 [(0, .ref (mH M)), (1, .int k), (2, .int (nI n))] := hl
  refine lv_aload_n hx hb dX4_newRow_0 rfl (lv_at hl 0 rfl) ?_
  refine wr_get (ci := 3) (C := RX4) (T := TX4) (N := 11) (v := .ref (mK M)) hx hb hts in_X4 hown hT hI hR.1 rfl 3 (by decide) (hts (.fieldLink RX4 13 "CopyRowsModel" "kinds" "[I") (by decide +kernel)) rfl dX4_newRow_1 ?_
  refine lv_aload_n hx hb dX4_newRow_4 rfl (lv_at hl 0 rfl) ?_
  refine wr_get (ci := 3) (C := RX4) (T := TX4) (N := 11) (v := .int (nI (sNr S))) hx hb hts in_X4 hown hT hI hR.1 rfl 2 (by decide) (hts (.fieldLink RX4 41 "CopyRowsModel" "rows" "I") (by decide +kernel)) rfl dX4_newRow_5 ?_
  refine lv_iload_n hx hb dX4_newRow_8 rfl (lv_at hl 1 rfl) ?_
  refine wr_iastN (t := sNr S) (n := 520) (f := sKd S) hx hb hT hI hS hR.2.2.1 (by omega) (by omega) dX4_newRow_9 (fun H locs hI hS => ?_)
  have hR := hR.kd (sNr S) (k)
  refine lv_aload_n hx hb dX4_newRow_10 rfl (lv_at hl 0 rfl) ?_
  refine wr_get (ci := 3) (C := RX4) (T := TX4) (N := 11) (v := .ref (mL M)) hx hb hts in_X4 hown hT hI hR.1 rfl 4 (by decide) (hts (.fieldLink RX4 16 "CopyRowsModel" "lengths" "[I") (by decide +kernel)) rfl dX4_newRow_11 ?_
  refine lv_aload_n hx hb dX4_newRow_14 rfl (lv_at hl 0 rfl) ?_
  refine wr_get (ci := 3) (C := RX4) (T := TX4) (N := 11) (v := .int (nI (sNr S))) hx hb hts in_X4 hown hT hI hR.1 rfl 2 (by decide) (hts (.fieldLink RX4 41 "CopyRowsModel" "rows" "I") (by decide +kernel)) rfl dX4_newRow_15 ?_
  refine lv_iload_n hx hb dX4_newRow_18 rfl (lv_at hl 2 rfl) ?_
  refine wr_iastN (t := sNr S) (n := 520) (f := lnF S) hx hb hT hI hS hR.2.2.2.1 (by omega) (by omega) dX4_newRow_19 (fun H locs hI hS => ?_)
  have hR := hR.ln (sNr S) (n)
  refine lv_iconst (v := 0) hx hb dX4_newRow_20 (by decide) ?_
  refine lv_istore_n (lv' := [(3, .int 0), (0, .ref (mH M)), (1, .int k), (2, .int (nI n))]) hx hb dX4_newRow_21 rfl hl (by decide) rfl (fun ls hl => ?_)
  refine lp_w (ι := Nat) (fun t => 40 - t) (fun t H locs ls => (t ≤ 40) ∧ (∃ w9, Hv E A w9 H ∧ Rm E (uRow (uLn (uKd S (sNr S) k) (sNr S) n) (sNr S) (fun j9 => if j9 < t then ini k j9 else sIt S (sNr S) j9)) M tt w9) ∧ va_S A s.heap H locs ∧ lv_has ls 4 [(0, .ref (mH M)), (1, .int k), (2, .int (nI n)), (3, .int (nI t))]) ?_ 0 _ _ _ ⟨Nat.zero_le _, ⟨_, hI, hR.same rfl rfl rfl rfl (fun r9 k9 _ _ => by by_cases e9 : r9 = S.2.2.1 <;> simp [sIt, uRow, uLn, uKd, va_up, e9, sNr]) rfl rfl rfl rfl rfl⟩, hS, lv_sub hl [1, 2, 3, 0] rfl⟩
  rintro t H locs ls ⟨ht, ⟨w9, hI, hR⟩, hS, hl⟩ ih
  refine lv_iload_n hx hb dX4_newRow_22 rfl (lv_at hl 3 rfl) ?_
  refine lv_bipush (v := 40) hx hb dX4_newRow_23 (by decide) ?_
  refine lv_icmp_ge (tgt := 53) hx hb dX4_newRow_25 (by decide) (fun c_1 => ?_) (fun c_1 => ?_)
  · have c_1 : 40 ≤ t := (nI_leI (a := 40) (b := t) (by omega) (by omega)).mp c_1
    refine lv_aload_n hx hb dX4_newRow_53 rfl (lv_at hl 0 rfl) ?_
    refine lv_dup hx hb dX4_newRow_54 rfl ?_
    refine wr_get (ci := 3) (C := RX4) (T := TX4) (N := 11) (v := .int (nI (sNr S))) hx hb hts in_X4 hown hT hI hR.1 rfl 2 (by decide) (hts (.fieldLink RX4 41 "CopyRowsModel" "rows" "I") (by decide +kernel)) rfl dX4_newRow_55 ?_
    refine lv_iconst (v := 1) hx hb dX4_newRow_58 (by decide) ?_
    refine lv_iadd hx hb dX4_newRow_59 ?_
    refine W.eq (g2 := F0 m 60 ls [.int (nI ((sNr S) + 1)), .ref (mH M)]) (by rw [show (nI (sNr S) : Int32) + 1 = nI ((sNr S) + 1) from nI_add (sNr S) 1]) ?_
    refine wr_put (ci := 3) (C := RX4) (T := TX4) (N := 11) (v := .int (nI ((sNr S) + 1))) (ty := .int) hx hb hts in_X4 tyX4 tyX4_ok nmX4 hown hT hI hS hR.1 rfl 2 (by decide) (hts (.fieldLink RX4 41 "CopyRowsModel" "rows" "I") (by decide +kernel)) rfl (by decide +kernel) rfl rfl (Nat.le_of_ble_eq_true rfl) dX4_newRow_60 (fun H locs hI hS => ?_)
    have hR := hR.obj (uNr (uRow (uLn (uKd S (sNr S) k) (sNr S) n) (sNr S) (fun j9 => if j9 < t then ini k j9 else sIt S (sNr S) j9)) ((sNr S) + 1)) rfl rfl rfl rfl rfl rfl
    refine lv_aload_n hx hb dX4_newRow_63 rfl (lv_at hl 0 rfl) ?_
    refine wr_get (ci := 3) (C := RX4) (T := TX4) (N := 11) (v := .int (nI ((sNr S) + 1))) hx hb hts in_X4 hown hT hI hR.1 rfl 2 (by decide) (hts (.fieldLink RX4 41 "CopyRowsModel" "rows" "I") (by decide +kernel)) rfl dX4_newRow_64 ?_
    refine lv_iconst (v := 1) hx hb dX4_newRow_67 (by decide) ?_
    refine lv_isub hx hb dX4_newRow_68 ?_
    refine W.eq (g2 := F0 m 69 ls [.int (nI (sNr S))]) (by rw [show (nI (sNr S + 1) - 1 : Int32) = nI (sNr S) from nI_pred _]) ?_
    exact re_i hx hb hr hlocks hT hA hS hI (⟨rfl, hR.same rfl rfl rfl rfl (fun r9 k9 _ h9 => by
            have h8 : k9 < t := by omega
            by_cases e9 : r9 = S.2.2.1
            · subst e9; simp [sIt, uNr, uRow, uNew, va_up, h8, sNr]
            · simp [sIt, uNr, uRow, uNew, uLn, uKd, va_up, e9, sNr]) rfl rfl rfl rfl rfl⟩) (Nat.le_of_ble_eq_true rfl) (Nat.le_of_ble_eq_true rfl) dX4_newRow_69
  · have c_1 : ¬ 40 ≤ t := fun q => c_1 ((nI_leI (a := 40) (b := t) (by omega) (by omega)).mpr q)
    refine lv_aload_n hx hb dX4_newRow_28 rfl (lv_at hl 0 rfl) ?_
    refine lv_aload_n hx hb dX4_newRow_29 rfl (lv_at hl 0 rfl) ?_
    refine wr_get (ci := 3) (C := RX4) (T := TX4) (N := 11) (v := .int (nI (sNr S))) hx hb hts in_X4 hown hT hI hR.1 rfl 2 (by decide) (hts (.fieldLink RX4 41 "CopyRowsModel" "rows" "I") (by decide +kernel)) rfl dX4_newRow_30 ?_
    refine lv_iload_n hx hb dX4_newRow_33 rfl (lv_at hl 3 rfl) ?_
    refine lv_iload_n hx hb dX4_newRow_34 rfl (lv_at hl 1 rfl) ?_
    refine lv_iconst (v := 2) hx hb dX4_newRow_35 (by decide) ?_
    refine lv_icmp_ge (tgt := 43) hx hb dX4_newRow_36 (by decide) (fun c_3 => ?_) (fun c_3 => ?_)
    · have c_3 : ¬ k < 2 := Int32.not_lt.mpr c_3
      refine lv_iconst (v := -1) hx hb dX4_newRow_43 (by decide) ?_
      refine ca_V (As := [.int (nI (sNr S)), .int (nI t), .int (-1)]) (rest := []) (r0 := (RX4, TX4, 11)) (ci := 3) ⟨hx, hb, hml, hown, hts⟩ (cc_X4_put l E A _ hb9 (by omega) (-1) hR) (cwV 3 hts gX4_newRow_X4_put rfl rfl rfl (by decide +kernel) ⟨(Nat.le_of_ble_eq_true rfl), (Nat.le_of_ble_eq_true rfl)⟩) hT hI hA hS rfl hR.1 rfl rfl hl.1 (Nat.le_of_ble_eq_true rfl) dX4_newRow_44 ⟨(Nat.le_of_ble_eq_true rfl), (Nat.le_of_ble_eq_true rfl)⟩ (fun r w_5 H locs hp_4 hI hS => ?_)
      obtain ⟨rfl, hR⟩ := hp_4
      refine W.eq (g2 := F0 m 47 ls []) rfl ?_
      refine lv_iinc (v := nI (t + 1)) (lv' := [(3, .int (nI (t + 1))), (0, .ref (mH M)), (1, .int k), (2, .int (nI n))]) hx hb dX4_newRow_47 hl (k := 3) rfl (nI_1 _) (by decide) rfl (fun ls hl => ?_)
      refine lv_goto (tgt := 22) hx hb dX4_newRow_50 (by decide) ?_
      refine ih (t + 1) _ _ _ ⟨by omega, ⟨_, hI, hR.same rfl rfl rfl rfl (fun r9 k9 _ _ => ?_) rfl rfl rfl rfl rfl⟩, hS, lv_sub hl [1, 2, 3, 0] rfl⟩ (by omega)
      by_cases e9 : r9 = sNr S
      · subst e9
        by_cases e8 : k9 = t
        · subst e8; simp [sIt, uRow, va_up, upd, (show ini k k9 = -1 from if_neg (fun q9 => c_3 (hk.mpr q9)))]
        · by_cases e7 : k9 < t
          · have e6 : k9 < t + 1 := by omega
            simp [sIt, uRow, va_up, upd, e8, e7, e6]
          · have e6 : ¬ k9 < t + 1 := by omega
            simp [sIt, uRow, va_up, upd, e8, e7, e6]
      · have e9 : ¬ r9 = S.2.2.1 := e9
        simp [sIt, uRow, va_up, e9, sNr]
    · have c_3 : k < 2 := Int32.not_le.mp c_3
      refine lv_iconst (v := 0) hx hb dX4_newRow_39 (by decide) ?_
      refine lv_goto (tgt := 44) hx hb dX4_newRow_40 (by decide) ?_
      refine ca_V (As := [.int (nI (sNr S)), .int (nI t), .int 0]) (rest := []) (r0 := (RX4, TX4, 11)) (ci := 3) ⟨hx, hb, hml, hown, hts⟩ (cc_X4_put l E A _ hb9 (by omega) (0) hR) (cwV 3 hts gX4_newRow_X4_put rfl rfl rfl (by decide +kernel) ⟨(Nat.le_of_ble_eq_true rfl), (Nat.le_of_ble_eq_true rfl)⟩) hT hI hA hS rfl hR.1 rfl rfl hl.1 (Nat.le_of_ble_eq_true rfl) dX4_newRow_44 ⟨(Nat.le_of_ble_eq_true rfl), (Nat.le_of_ble_eq_true rfl)⟩ (fun r w_7 H locs hp_6 hI hS => ?_)
      obtain ⟨rfl, hR⟩ := hp_6
      refine W.eq (g2 := F0 m 47 ls []) rfl ?_
      refine lv_iinc (v := nI (t + 1)) (lv' := [(3, .int (nI (t + 1))), (0, .ref (mH M)), (1, .int k), (2, .int (nI n))]) hx hb dX4_newRow_47 hl (k := 3) rfl (nI_1 _) (by decide) rfl (fun ls hl => ?_)
      refine lv_goto (tgt := 22) hx hb dX4_newRow_50 (by decide) ?_
      refine ih (t + 1) _ _ _ ⟨by omega, ⟨_, hI, hR.same rfl rfl rfl rfl (fun r9 k9 _ _ => ?_) rfl rfl rfl rfl rfl⟩, hS, lv_sub hl [1, 2, 3, 0] rfl⟩ (by omega)
      by_cases e9 : r9 = sNr S
      · subst e9
        by_cases e8 : k9 = t
        · subst e8; simp [sIt, uRow, va_up, upd, (show ini k k9 = 0 from if_pos (hk.mp c_3))]
        · by_cases e7 : k9 < t
          · have e6 : k9 < t + 1 := by omega
            simp [sIt, uRow, va_up, upd, e8, e7, e6]
          · have e6 : ¬ k9 < t + 1 := by omega
            simp [sIt, uRow, va_up, upd, e8, e7, e6]
      · have e9 : ¬ r9 = S.2.2.1 := e9
        simp [sIt, uRow, va_up, e9, sNr]

set_option maxHeartbeats 4000000 in
set_option maxRecDepth 100000 in
theorem cc_X4_wantsItem (l : Launch) (E : En) (A : Nat → Prop) (w : Wd) {S : Sx} {M : Md} {tt : Nat → Int32} {j : Nat} (hj : j < 12) (lo hi k : Int32) (hW : Wf S) (hR : Rm E S M tt w) : Ct l yX4_wantsItem wsX4_wantsItem ({ frames := 1, cells := 0, slots := 0, locals := 25 } : Room) E A w [.ref (mH M), .int (nI j), .int lo, .int hi, .int k] (fun r w' => w = w' ∧ ((sPl S j = -1 ∧ r = some (.int 1)) ∨ (¬ sPl S j = -1 ∧ ¬ (vR S (sPl S j) ∧ lo ≤ kdv S (sPl S j) ∧ kdv S (sPl S j) ≤ hi) ∧ r = some (.int 5)) ∨ (¬ sPl S j = -1 ∧ (vR S (sPl S j) ∧ lo ≤ kdv S (sPl S j) ∧ kdv S (sPl S j) ≤ hi) ∧ oI (lnv S (sPl S j)) k ∧ r = some (.int 3)) ∨ (¬ sPl S j = -1 ∧ (vR S (sPl S j) ∧ lo ≤ kdv S (sPl S j) ∧ kdv S (sPl S j) ≤ hi) ∧ ¬ oI (lnv S (sPl S j)) k ∧ r = some (.int 0)))) 0 0 := by
  refine Met.ofW (cc := cX4_wantsItem) (maxL := 6) (ret := (some .int)) (by decide) rfl ?_
  intro pp0 ee0 s m args below meth cc0 s₁ B hml hv
  obtain ⟨rfl, hT, hI, hA⟩ := hv
  have hx := B.exec
  have hb := B.bytes
  have hr := B.returns
  have hts := atoms_spec (ws := wsX4_wantsItem) B.pre
  have hown : s.vm.findClass RX4 = some m.cls := findClass_of_methodNamed B.named
  have hlocks := B.notSynchronized
  have hS : va_S A s.heap s.heap [] := va_S.rf
  have hl := lv_entry ([.ref (mH M), .int (nI j), .int lo, .int hi, .int k]) (n := 6) (Nat.le_of_ble_eq_true rfl)
  rw [lg_entry_eq]
  generalize (lg_sl ([.ref (mH M), .int (nI j), .int lo, .int hi, .int k]) ++ List.replicate (6 - (lg_sl ([.ref (mH M), .int (nI j), .int lo, .int hi, .int k])).length) Slot.unset).toArray = ls at hl ⊢
  have hl : lv_has ls 6 [(0, .ref (mH M)), (1, .int (nI j)), (2, .int lo), (3, .int hi), (4, .int k)] := hl
  refine lv_aload_n hx hb dX4_wantsItem_0 rfl (lv_at hl 0 rfl) ?_
  refine lv_iload_n hx hb dX4_wantsItem_1 rfl (lv_at hl 1 rfl) ?_
  refine ca_V (As := [.int (nI j)]) (rest := []) (r0 := (RX4, TX4, 11)) (ci := 3) ⟨hx, hb, hml, hown, hts⟩ (cc_X4_wantsRow l E A _ (by omega) hW hR) (cwV 1 hts gX4_wantsItem_X4_wantsRow rfl rfl rfl (by decide +kernel) ⟨(Nat.le_of_ble_eq_true rfl), (Nat.le_of_ble_eq_true rfl)⟩) hT hI hA hS rfl hR.1 rfl rfl hl.1 (Nat.le_of_ble_eq_true rfl) dX4_wantsItem_2 ⟨(Nat.le_of_ble_eq_true rfl), (Nat.le_of_ble_eq_true rfl)⟩ (fun r w_2 H locs hp_1 hI hS => ?_)
  obtain ⟨rfl, ⟨ez3, rfl⟩ | ⟨ez3, e63, rfl⟩ | ⟨ez3, hr3, rfl⟩⟩ := hp_1
  · refine W.eq (g2 := F0 m 5 ls [.int 1]) rfl ?_
    refine lv_istore (lv' := [(5, .int 1), (0, .ref (mH M)), (1, .int (nI j)), (2, .int lo), (3, .int hi), (4, .int k)]) hx hb dX4_wantsItem_5 hl (by decide) rfl (fun ls hl => ?_)
    refine lv_iload hx hb dX4_wantsItem_7 (lv_at hl 0 rfl) ?_
    refine lv_if_ne (tgt := 31) hx hb dX4_wantsItem_9 (by decide) (fun _ => ?_) (fun c => absurd c (by decide))
    refine lv_iload hx hb dX4_wantsItem_31 (lv_at hl 0 rfl) ?_
    refine lv_if_ne (tgt := 58) hx hb dX4_wantsItem_33 (by decide) (fun _ => ?_) (fun c => absurd c (by decide))
    refine lv_iload hx hb dX4_wantsItem_58 (lv_at hl 0 rfl) ?_
    exact re_i hx hb hr hlocks hT hA hS hI (⟨rfl, Or.inl ⟨ez3, rfl⟩⟩) (Nat.le_of_ble_eq_true rfl) (Nat.le_of_ble_eq_true rfl) dX4_wantsItem_60
  · refine W.eq (g2 := F0 m 5 ls [.int 5]) rfl ?_
    refine lv_istore (lv' := [(5, .int 5), (0, .ref (mH M)), (1, .int (nI j)), (2, .int lo), (3, .int hi), (4, .int k)]) hx hb dX4_wantsItem_5 hl (by decide) rfl (fun ls hl => ?_)
    refine lv_iload hx hb dX4_wantsItem_7 (lv_at hl 0 rfl) ?_
    refine lv_if_ne (tgt := 31) hx hb dX4_wantsItem_9 (by decide) (fun _ => ?_) (fun c => absurd c (by decide))
    refine lv_iload hx hb dX4_wantsItem_31 (lv_at hl 0 rfl) ?_
    refine lv_if_ne (tgt := 58) hx hb dX4_wantsItem_33 (by decide) (fun _ => ?_) (fun c => absurd c (by decide))
    refine lv_iload hx hb dX4_wantsItem_58 (lv_at hl 0 rfl) ?_
    exact re_i hx hb hr hlocks hT hA hS hI (⟨rfl, Or.inr (Or.inl ⟨ez3, fun q9 => row_kd hW q9.1 e63, rfl⟩)⟩) (Nat.le_of_ble_eq_true rfl) (Nat.le_of_ble_eq_true rfl) dX4_wantsItem_60
  · have hln3 := hW.ln (Or.inl hr3)
    refine W.eq (g2 := F0 m 5 ls [.int 0]) rfl ?_
    refine lv_istore (lv' := [(5, .int 0), (0, .ref (mH M)), (1, .int (nI j)), (2, .int lo), (3, .int hi), (4, .int k)]) hx hb dX4_wantsItem_5 hl (by decide) rfl (fun ls hl => ?_)
    refine lv_iload hx hb dX4_wantsItem_7 (lv_at hl 0 rfl) ?_
    refine lv_if_ne (tgt := 31) hx hb dX4_wantsItem_9 (by decide) (fun c => absurd c (by decide)) (fun _ => ?_)
    refine lv_aload_n hx hb dX4_wantsItem_12 rfl (lv_at hl 1 rfl) ?_
    refine lv_iload_n hx hb dX4_wantsItem_13 rfl (lv_at hl 2 rfl) ?_
    refine ca_V (As := [.int (nI j)]) (rest := []) (r0 := (RX4, TX4, 11)) (ci := 3) ⟨hx, hb, hml, hown, hts⟩ (cc_X4_kindOf l E A _ (by omega) hW hR) (cwV 1 hts gX4_wantsItem_X4_kindOf rfl rfl rfl (by decide +kernel) ⟨(Nat.le_of_ble_eq_true rfl), (Nat.le_of_ble_eq_true rfl)⟩) hT hI hA hS rfl hR.1 rfl rfl hl.1 (Nat.le_of_ble_eq_true rfl) dX4_wantsItem_14 ⟨(Nat.le_of_ble_eq_true rfl), (Nat.le_of_ble_eq_true rfl)⟩ (fun r w_5 H locs hp_4 hI hS => ?_)
    obtain ⟨rfl, rfl⟩ := hp_4
    rw [kp_ne ez3]
    refine W.eq (g2 := F0 m 17 ls [.int (kdv S (sPl S j))]) rfl ?_
    refine lv_i2l (v := (kdv S (sPl S j)).toInt64) hx hb dX4_wantsItem_17 rfl ?_
    refine lv_iload_n hx hb dX4_wantsItem_18 rfl (lv_at hl 3 rfl) ?_
    refine lv_i2l (v := lo.toInt64) hx hb dX4_wantsItem_19 rfl ?_
    refine lv_iload_n hx hb dX4_wantsItem_20 rfl (lv_at hl 4 rfl) ?_
    refine lv_i2l (v := hi.toInt64) hx hb dX4_wantsItem_21 rfl ?_
    refine ca_S (As := [.long ((kdv S (sPl S j)).toInt64), .long lo.toInt64, .long hi.toInt64]) (rest := []) ⟨hx, hb, hml, hown, hts⟩ (cc_X4_within l E A _ ((kdv S (sPl S j)).toInt64) lo.toInt64 hi.toInt64) (va_cwS 3 hts gX4_wantsItem_X4_within rfl rfl rfl (by decide +kernel) ⟨(Nat.le_of_ble_eq_true rfl), (Nat.le_of_ble_eq_true rfl)⟩) hT hI hA hS rfl rfl hl.1 (Nat.le_of_ble_eq_true rfl) dX4_wantsItem_22 ⟨(Nat.le_of_ble_eq_true rfl), (Nat.le_of_ble_eq_true rfl)⟩ (fun r w_7 H locs hp_6 hI hS => ?_)
    obtain ⟨rfl, ⟨hw_8, rfl⟩ | ⟨hw_8, rfl⟩⟩ := hp_6
    · have hw_8 : lo ≤ kdv S (sPl S j) ∧ kdv S (sPl S j) ≤ hi := ⟨i64_iff.mp hw_8.1, i64_iff.mp hw_8.2⟩
      refine W.eq (g2 := F0 m 25 ls [.int 1]) rfl ?_
      refine lv_if_ne (tgt := 31) hx hb dX4_wantsItem_25 (by decide) (fun _ => ?_) (fun c => absurd c (by decide))
      refine lv_iload hx hb dX4_wantsItem_31 (lv_at hl 0 rfl) ?_
      refine lv_if_ne (tgt := 58) hx hb dX4_wantsItem_33 (by decide) (fun c => absurd c (by decide)) (fun _ => ?_)
      refine lv_iload hx hb dX4_wantsItem_36 (lv_at hl 5 rfl) ?_
      refine lv_i2l (v := k.toInt64) hx hb dX4_wantsItem_38 rfl ?_
      refine lv_lconst (v := 0) hx hb dX4_wantsItem_39 (by decide) ?_
      refine lv_aload_n hx hb dX4_wantsItem_40 rfl (lv_at hl 1 rfl) ?_
      refine lv_iload_n hx hb dX4_wantsItem_41 rfl (lv_at hl 2 rfl) ?_
      refine ca_V (As := [.int (nI j)]) (rest := [.long 0, .long k.toInt64]) (r0 := (RX4, TX4, 11)) (ci := 3) ⟨hx, hb, hml, hown, hts⟩ (cc_X4_lengthOf l E A _ (by omega) hW hR hr3) (cwV 1 hts gX4_wantsItem_X4_lengthOf rfl rfl rfl (by decide +kernel) ⟨(Nat.le_of_ble_eq_true rfl), (Nat.le_of_ble_eq_true rfl)⟩) hT hI hA hS rfl hR.1 rfl rfl hl.1 (Nat.le_of_ble_eq_true rfl) dX4_wantsItem_42 ⟨(Nat.le_of_ble_eq_true rfl), (Nat.le_of_ble_eq_true rfl)⟩ (fun r w_10 H locs hp_9 hI hS => ?_)
      obtain ⟨rfl, rfl⟩ := hp_9
      refine W.eq (g2 := F0 m 45 ls [.int (nI (lnv S (sPl S j))), .long 0, .long k.toInt64]) rfl ?_
      refine lv_iconst (v := 1) hx hb dX4_wantsItem_45 (by decide) ?_
      refine lv_isub hx hb dX4_wantsItem_46 ?_
      refine lv_i2l (v := ((nI (lnv S (sPl S j))) - 1).toInt64) hx hb dX4_wantsItem_47 rfl ?_
      refine ca_S (As := [.long k.toInt64, .long 0, .long (((nI (lnv S (sPl S j))) - 1).toInt64)]) (rest := []) ⟨hx, hb, hml, hown, hts⟩ (cc_X4_within l E A _ k.toInt64 0 (((nI (lnv S (sPl S j))) - 1).toInt64)) (va_cwS 3 hts gX4_wantsItem_X4_within rfl rfl rfl (by decide +kernel) ⟨(Nat.le_of_ble_eq_true rfl), (Nat.le_of_ble_eq_true rfl)⟩) hT hI hA hS rfl rfl hl.1 (Nat.le_of_ble_eq_true rfl) dX4_wantsItem_48 ⟨(Nat.le_of_ble_eq_true rfl), (Nat.le_of_ble_eq_true rfl)⟩ (fun r w_12 H locs hp_11 hI hS => ?_)
      obtain ⟨rfl, ⟨hw_13, rfl⟩ | ⟨hw_13, rfl⟩⟩ := hp_11
      · have hw_13 : ¬ oI (lnv S (sPl S j)) k := (in_item (hW.ln (Or.inl hr3))).mp hw_13
        refine W.eq (g2 := F0 m 51 ls [.int 1]) rfl ?_
        refine lv_if_ne (tgt := 58) hx hb dX4_wantsItem_51 (by decide) (fun _ => ?_) (fun c => absurd c (by decide))
        refine lv_iload hx hb dX4_wantsItem_58 (lv_at hl 0 rfl) ?_
        exact re_i hx hb hr hlocks hT hA hS hI (⟨rfl, Or.inr (Or.inr (Or.inr ⟨ez3, ⟨hr3, hw_8.1, hw_8.2⟩, hw_13, rfl⟩))⟩) (Nat.le_of_ble_eq_true rfl) (Nat.le_of_ble_eq_true rfl) dX4_wantsItem_60
      · have hw_13 : oI (lnv S (sPl S j)) k := Classical.not_not.mp (fun q9 => hw_13 ((in_item (hW.ln (Or.inl hr3))).mpr q9))
        refine W.eq (g2 := F0 m 51 ls [.int 0]) rfl ?_
        refine lv_if_ne (tgt := 58) hx hb dX4_wantsItem_51 (by decide) (fun c => absurd c (by decide)) (fun _ => ?_)
        refine lv_iconst (v := 3) hx hb dX4_wantsItem_54 (by decide) ?_
        refine lv_goto (tgt := 60) hx hb dX4_wantsItem_55 (by decide) ?_
        exact re_i hx hb hr hlocks hT hA hS hI (⟨rfl, Or.inr (Or.inr (Or.inl ⟨ez3, ⟨hr3, hw_8.1, hw_8.2⟩, hw_13, rfl⟩))⟩) (Nat.le_of_ble_eq_true rfl) (Nat.le_of_ble_eq_true rfl) dX4_wantsItem_60
    · have hw_8 : ¬ (lo ≤ kdv S (sPl S j) ∧ kdv S (sPl S j) ≤ hi) := fun q9 => hw_8 ⟨i64_iff.mpr q9.1, i64_iff.mpr q9.2⟩
      refine W.eq (g2 := F0 m 25 ls [.int 0]) rfl ?_
      refine lv_if_ne (tgt := 31) hx hb dX4_wantsItem_25 (by decide) (fun c => absurd c (by decide)) (fun _ => ?_)
      refine lv_iconst (v := 5) hx hb dX4_wantsItem_28 (by decide) ?_
      refine lv_istore (lv' := [(5, .int 5), (0, .ref (mH M)), (1, .int (nI j)), (2, .int lo), (3, .int hi), (4, .int k)]) hx hb dX4_wantsItem_29 hl (by decide) rfl (fun ls hl => ?_)
      refine lv_iload hx hb dX4_wantsItem_31 (lv_at hl 0 rfl) ?_
      refine lv_if_ne (tgt := 58) hx hb dX4_wantsItem_33 (by decide) (fun _ => ?_) (fun c => absurd c (by decide))
      refine lv_iload hx hb dX4_wantsItem_58 (lv_at hl 0 rfl) ?_
      exact re_i hx hb hr hlocks hT hA hS hI (⟨rfl, Or.inr (Or.inl ⟨ez3, fun q9 => hw_8 q9.2, rfl⟩)⟩) (Nat.le_of_ble_eq_true rfl) (Nat.le_of_ble_eq_true rfl) dX4_wantsItem_60

set_option maxHeartbeats 4000000 in
set_option maxRecDepth 100000 in
theorem cc_X4_fits (l : Launch) (E : En) (A : Nat → Prop) (w : Wd) {S : Sx} {M : Md} {tt : Nat → Int32} (kf x kd : Int32) (hx9 : x = -1 ∨ kf = 2 ∨ kd = 2 ∨ vT S x) (hW : Wf S) (hR : Rm E S M tt w) : Ct l yX4_fits wsX4_fits ({ frames := 1, cells := 0, slots := 0, locals := 21 } : Room) E A w [.ref (mH M), .int kf, .int x, .int kd] (fun r w' => w = w' ∧ (((fitS S kf x kd) ∧ r = some (.int 1)) ∨ (¬ (fitS S kf x kd) ∧ r = some (.int 0)))) 0 0 := by
  refine Met.ofW (cc := cX4_fits) (maxL := 4) (ret := (some .boolean)) (by decide) rfl ?_
  intro pp0 ee0 s m args below meth cc0 s₁ B hml hv
  obtain ⟨rfl, hT, hI, hA⟩ := hv
  have hx := B.exec
  have hb := B.bytes
  have hr := B.returns
  have hts := atoms_spec (ws := wsX4_fits) B.pre
  have hown : s.vm.findClass RX4 = some m.cls := findClass_of_methodNamed B.named
  have hlocks := B.notSynchronized
  have in_X4 : ∀ w ∈ wsX40, w ∈ wsX4_fits := by decide +kernel
  have hS : va_S A s.heap s.heap [] := va_S.rf
  have hl := lv_entry ([.ref (mH M), .int kf, .int x, .int kd]) (n := 4) (Nat.le_of_ble_eq_true rfl)
  rw [lg_entry_eq]
  generalize (lg_sl ([.ref (mH M), .int kf, .int x, .int kd]) ++ List.replicate (4 - (lg_sl ([.ref (mH M), .int kf, .int x, .int kd])).length) Slot.unset).toArray = ls at hl ⊢
  have hl : lv_has ls 4 [(0, .ref (mH M)), (1, .int kf), (2, .int x), (3, .int kd)] := hl
  refine lv_iload_n hx hb dX4_fits_0 rfl (lv_at hl 2 rfl) ?_
  refine lv_iconst (v := -1) hx hb dX4_fits_1 (by decide) ?_
  refine lv_icmp_ne (tgt := 7) hx hb dX4_fits_2 (by decide) (fun c_1 => ?_) (fun c_1 => ?_)
  · refine lv_iload_n hx hb dX4_fits_7 rfl (lv_at hl 1 rfl) ?_
    refine lv_iconst (v := 2) hx hb dX4_fits_8 (by decide) ?_
    refine lv_icmp_eq (tgt := 17) hx hb dX4_fits_9 (by decide) (fun c_2 => ?_) (fun c_2 => ?_)
    · refine lv_iload_n hx hb dX4_fits_17 rfl (lv_at hl 1 rfl) ?_
      refine lv_iload_n hx hb dX4_fits_18 rfl (lv_at hl 3 rfl) ?_
      refine lv_icmp_ne (tgt := 26) hx hb dX4_fits_19 (by decide) (fun c_3 => ?_) (fun c_3 => ?_)
      · refine lv_iconst (v := 0) hx hb dX4_fits_26 (by decide) ?_
        exact re_z hx hb hr hlocks hT hA hS hI (by decide) (by refine ⟨rfl, Or.inr ⟨?_, rfl⟩⟩; simp only [fitS, fT]; clear hR hI hS hA hts hT; grind) (Nat.le_of_ble_eq_true rfl) (Nat.le_of_ble_eq_true rfl) dX4_fits_27
      · refine lv_iconst (v := 1) hx hb dX4_fits_22 (by decide) ?_
        refine lv_goto (tgt := 27) hx hb dX4_fits_23 (by decide) ?_
        exact re_z hx hb hr hlocks hT hA hS hI (by decide) (by refine ⟨rfl, Or.inl ⟨?_, rfl⟩⟩; simp only [fitS, fT]; clear hR hI hS hA hts hT; grind) (Nat.le_of_ble_eq_true rfl) (Nat.le_of_ble_eq_true rfl) dX4_fits_27
    · refine lv_iload_n hx hb dX4_fits_12 rfl (lv_at hl 3 rfl) ?_
      refine lv_iconst (v := 2) hx hb dX4_fits_13 (by decide) ?_
      refine lv_icmp_ne (tgt := 28) hx hb dX4_fits_14 (by decide) (fun c_4 => ?_) (fun c_4 => ?_)
      · have hvt : vT S x := ((hx9.resolve_left c_1).resolve_left c_2).resolve_left c_4
        have hcl : ¬ sCl S (ix x) = -1 := hW.2.2.1 _ hvt.2
        refine lv_aload_n hx hb dX4_fits_28 rfl (lv_at hl 0 rfl) ?_
        refine wr_get (ci := 3) (C := RX4) (T := TX4) (N := 11) (v := .ref (mC M)) hx hb hts in_X4 hown hT hI hR.1 rfl 7 (by decide) (hts (.fieldLink RX4 22 "CopyRowsModel" "classes" "[I") (by decide +kernel)) rfl dX4_fits_29 ?_
        refine lv_iload_n hx hb dX4_fits_32 rfl (lv_at hl 2 rfl) ?_
        refine W.eq (g2 := F0 m 33 ls [.int (nI (ix x)), .ref (mC M)]) (by rw [nI_ix hvt.1]) ?_
        refine wr_ialdN (t := ix x) (n := 520) (f := sCl S) hx hb hT hI hR.2.2.2.2.2.1 (by have h9 := hvt.2; have h8 := hW.2.2.2; omega) (by omega) dX4_fits_33 ?_
        refine lv_iload_n hx hb dX4_fits_34 rfl (lv_at hl 3 rfl) ?_
        refine ca_S (As := [.int (sCl S (ix x)), .int kd]) (rest := []) ⟨hx, hb, hml, hown, hts⟩ (cc_X4_fitsClass l E A _ (sCl S (ix x)) kd) (va_cwS 2 hts gX4_fits_X4_fitsClass rfl rfl rfl (by decide +kernel) ⟨(Nat.le_of_ble_eq_true rfl), (Nat.le_of_ble_eq_true rfl)⟩) hT hI hA hS rfl rfl hl.1 (Nat.le_of_ble_eq_true rfl) dX4_fits_35 ⟨(Nat.le_of_ble_eq_true rfl), (Nat.le_of_ble_eq_true rfl)⟩ (fun r w_6 H locs hp_5 hI hS => ?_)
        obtain ⟨rfl, ⟨hw_7, rfl⟩ | ⟨hw_7, rfl⟩⟩ := hp_5
        · refine W.eq (g2 := F0 m 38 ls [.int 1]) rfl ?_
          exact re_z hx hb hr hlocks hT hA hS hI (by decide) (by refine ⟨rfl, Or.inl ⟨?_, rfl⟩⟩; simp only [fitS, fT]; clear hR hI hS hA hts hT; grind) (Nat.le_of_ble_eq_true rfl) (Nat.le_of_ble_eq_true rfl) dX4_fits_38
        · refine W.eq (g2 := F0 m 38 ls [.int 0]) rfl ?_
          exact re_z hx hb hr hlocks hT hA hS hI (by decide) (by refine ⟨rfl, Or.inr ⟨?_, rfl⟩⟩; simp only [fitS, fT]; clear hR hI hS hA hts hT; grind) (Nat.le_of_ble_eq_true rfl) (Nat.le_of_ble_eq_true rfl) dX4_fits_38
      · refine lv_iload_n hx hb dX4_fits_17 rfl (lv_at hl 1 rfl) ?_
        refine lv_iload_n hx hb dX4_fits_18 rfl (lv_at hl 3 rfl) ?_
        refine lv_icmp_ne (tgt := 26) hx hb dX4_fits_19 (by decide) (fun c_8 => ?_) (fun c_8 => ?_)
        · refine lv_iconst (v := 0) hx hb dX4_fits_26 (by decide) ?_
          exact re_z hx hb hr hlocks hT hA hS hI (by decide) (by refine ⟨rfl, Or.inr ⟨?_, rfl⟩⟩; simp only [fitS, fT]; clear hR hI hS hA hts hT; grind) (Nat.le_of_ble_eq_true rfl) (Nat.le_of_ble_eq_true rfl) dX4_fits_27
        · refine lv_iconst (v := 1) hx hb dX4_fits_22 (by decide) ?_
          refine lv_goto (tgt := 27) hx hb dX4_fits_23 (by decide) ?_
          exact re_z hx hb hr hlocks hT hA hS hI (by decide) (by refine ⟨rfl, Or.inl ⟨?_, rfl⟩⟩; simp only [fitS, fT]; clear hR hI hS hA hts hT; grind) (Nat.le_of_ble_eq_true rfl) (Nat.le_of_ble_eq_true rfl) dX4_fits_27
  · refine lv_iconst (v := 1) hx hb dX4_fits_5 (by decide) ?_
    exact re_z hx hb hr hlocks hT hA hS hI (by decide) (by refine ⟨rfl, Or.inl ⟨?_, rfl⟩⟩; simp only [fitS, fT]; clear hR hI hS hA hts hT; grind) (Nat.le_of_ble_eq_true rfl) (Nat.le_of_ble_eq_true rfl) dX4_fits_6

set_option maxHeartbeats 4000000 in
set_option maxRecDepth 100000 in
theorem cc_X4_unlike (l : Launch) (E : En) (A : Nat → Prop) (w : Wd) {S : Sx} {M : Md} {tt : Nat → Int32} {i9 j9 : Nat} (hi9 : i9 < 12) (hj9 : j9 < 12) (hW : Wf S) (hR : Rm E S M tt w) : Ct l yX4_unlike wsX4_unlike ({ frames := 1, cells := 0, slots := 0, locals := 22 } : Room) E A w [.ref (mH M), .int (nI i9), .int (nI j9)] (fun r w' => w = w' ∧ (((sPl S i9 = -1 ∨ sPl S j9 = -1) ∧ r = some (.int 1)) ∨ (¬ (sPl S i9 = -1 ∨ sPl S j9 = -1) ∧ ¬ mayT (kdv S (sPl S j9)) (kdv S (sPl S i9)) ∧ r = some (.int 2)) ∨ (¬ (sPl S i9 = -1 ∨ sPl S j9 = -1) ∧ mayT (kdv S (sPl S j9)) (kdv S (sPl S i9)) ∧ r = some (.int 0)))) 0 0 := by
  refine Met.ofW (cc := cX4_unlike) (maxL := 5) (ret := (some .int)) (by decide) rfl ?_
  intro pp0 ee0 s m args below meth cc0 s₁ B hml hv
  obtain ⟨rfl, hT, hI, hA⟩ := hv
  have hx := B.exec
  have hb := B.bytes
  have hr := B.returns
  have hts := atoms_spec (ws := wsX4_unlike) B.pre
  have hown : s.vm.findClass RX4 = some m.cls := findClass_of_methodNamed B.named
  have hlocks := B.notSynchronized
  have in_X4 : ∀ w ∈ wsX40, w ∈ wsX4_unlike := by decide +kernel
  have hS : va_S A s.heap s.heap [] := va_S.rf
  have hl := lv_entry ([.ref (mH M), .int (nI i9), .int (nI j9)]) (n := 5) (Nat.le_of_ble_eq_true rfl)
  rw [lg_entry_eq]
  generalize (lg_sl ([.ref (mH M), .int (nI i9), .int (nI j9)]) ++ List.replicate (5 - (lg_sl ([.ref (mH M), .int (nI i9), .int (nI j9)])).length) Slot.unset).toArray = ls at hl ⊢
  have hl : lv_has ls 5 [(0, .ref (mH M)), (1, .int (nI i9)), (2, .int (nI j9))] := hl
  refine lv_aload_n hx hb dX4_unlike_0 rfl (lv_at hl 0 rfl) ?_
  refine wr_get (ci := 3) (C := RX4) (T := TX4) (N := 11) (v := .ref (mP M)) hx hb hts in_X4 hown hT hI hR.1 rfl 1 (by decide) (hts (.fieldLink RX4 7 "CopyRowsModel" "places" "[I") (by decide +kernel)) rfl dX4_unlike_1 ?_
  refine lv_iload_n hx hb dX4_unlike_4 rfl (lv_at hl 1 rfl) ?_
  refine wr_ialdN (t := i9) (n := 12) (f := plF S) hx hb hT hI hR.2.1 (by omega) (by omega) dX4_unlike_5 ?_
  refine W.eq (g2 := F0 m 6 ls [.int (sPl S i9)]) (by rw [plF_at (by omega)]) ?_
  refine lv_iconst (v := -1) hx hb dX4_unlike_6 (by decide) ?_
  refine lv_icmp_eq (tgt := 20) hx hb dX4_unlike_7 (by decide) (fun c_1 => ?_) (fun c_1 => ?_)
  · refine lv_iconst (v := 1) hx hb dX4_unlike_20 (by decide) ?_
    exact re_i hx hb hr hlocks hT hA hS hI (⟨rfl, Or.inl ⟨Or.inl c_1, rfl⟩⟩) (Nat.le_of_ble_eq_true rfl) (Nat.le_of_ble_eq_true rfl) dX4_unlike_21
  · refine lv_aload_n hx hb dX4_unlike_10 rfl (lv_at hl 0 rfl) ?_
    refine wr_get (ci := 3) (C := RX4) (T := TX4) (N := 11) (v := .ref (mP M)) hx hb hts in_X4 hown hT hI hR.1 rfl 1 (by decide) (hts (.fieldLink RX4 7 "CopyRowsModel" "places" "[I") (by decide +kernel)) rfl dX4_unlike_11 ?_
    refine lv_iload_n hx hb dX4_unlike_14 rfl (lv_at hl 2 rfl) ?_
    refine wr_ialdN (t := j9) (n := 12) (f := plF S) hx hb hT hI hR.2.1 (by omega) (by omega) dX4_unlike_15 ?_
    refine W.eq (g2 := F0 m 16 ls [.int (sPl S j9)]) (by rw [plF_at (by omega)]) ?_
    refine lv_iconst (v := -1) hx hb dX4_unlike_16 (by decide) ?_
    refine lv_icmp_ne (tgt := 22) hx hb dX4_unlike_17 (by decide) (fun c_2 => ?_) (fun c_2 => ?_)
    · refine lv_aload_n hx hb dX4_unlike_22 rfl (lv_at hl 0 rfl) ?_
      refine lv_iload_n hx hb dX4_unlike_23 rfl (lv_at hl 1 rfl) ?_
      refine ca_V (As := [.int (nI i9)]) (rest := []) (r0 := (RX4, TX4, 11)) (ci := 3) ⟨hx, hb, hml, hown, hts⟩ (cc_X4_kindOf l E A _ (by omega) hW hR) (cwV 1 hts gX4_unlike_X4_kindOf rfl rfl rfl (by decide +kernel) ⟨(Nat.le_of_ble_eq_true rfl), (Nat.le_of_ble_eq_true rfl)⟩) hT hI hA hS rfl hR.1 rfl rfl hl.1 (Nat.le_of_ble_eq_true rfl) dX4_unlike_24 ⟨(Nat.le_of_ble_eq_true rfl), (Nat.le_of_ble_eq_true rfl)⟩ (fun r w_4 H locs hp_3 hI hS => ?_)
      obtain ⟨rfl, rfl⟩ := hp_3
      rw [kp_ne c_1]
      refine W.eq (g2 := F0 m 27 ls [.int (kdv S (sPl S i9))]) rfl ?_
      refine lv_istore_n (lv' := [(3, .int (kdv S (sPl S i9))), (0, .ref (mH M)), (1, .int (nI i9)), (2, .int (nI j9))]) hx hb dX4_unlike_27 rfl hl (by decide) rfl (fun ls hl => ?_)
      refine lv_aload_n hx hb dX4_unlike_28 rfl (lv_at hl 1 rfl) ?_
      refine lv_iload_n hx hb dX4_unlike_29 rfl (lv_at hl 3 rfl) ?_
      refine ca_V (As := [.int (nI j9)]) (rest := []) (r0 := (RX4, TX4, 11)) (ci := 3) ⟨hx, hb, hml, hown, hts⟩ (cc_X4_kindOf l E A _ (by omega) hW hR) (cwV 1 hts gX4_unlike_X4_kindOf rfl rfl rfl (by decide +kernel) ⟨(Nat.le_of_ble_eq_true rfl), (Nat.le_of_ble_eq_true rfl)⟩) hT hI hA hS rfl hR.1 rfl rfl hl.1 (Nat.le_of_ble_eq_true rfl) dX4_unlike_30 ⟨(Nat.le_of_ble_eq_true rfl), (Nat.le_of_ble_eq_true rfl)⟩ (fun r w_6 H locs hp_5 hI hS => ?_)
      obtain ⟨rfl, rfl⟩ := hp_5
      rw [kp_ne c_2]
      refine W.eq (g2 := F0 m 33 ls [.int (kdv S (sPl S j9))]) rfl ?_
      refine lv_istore (lv' := [(4, .int (kdv S (sPl S j9))), (3, .int (kdv S (sPl S i9))), (0, .ref (mH M)), (1, .int (nI i9)), (2, .int (nI j9))]) hx hb dX4_unlike_33 hl (by decide) rfl (fun ls hl => ?_)
      refine lv_iload_n hx hb dX4_unlike_35 rfl (lv_at hl 1 rfl) ?_
      refine lv_bipush (v := 6) hx hb dX4_unlike_36 (by decide) ?_
      refine lv_icmp_eq (tgt := 65) hx hb dX4_unlike_38 (by decide) (fun c_7 => ?_) (fun c_7 => ?_)
      · refine lv_iconst (v := 2) hx hb dX4_unlike_65 (by decide) ?_
        refine lv_goto (tgt := 70) hx hb dX4_unlike_66 (by decide) ?_
        exact re_i hx hb hr hlocks hT hA hS hI (⟨rfl, Or.inr (Or.inl ⟨(fun q9 => q9.elim c_1 c_2), by simp only [mayT]; have g1 := lt2 (hW.kd ((hW.1 i9).resolve_left c_1)); have g2 := lt2 (hW.kd ((hW.1 j9).resolve_left c_2)); have g3 : ∀ x y : Int32, y ≤ x ↔ ¬ x < y := fun x y => Int32.not_lt.symm; clear hR hI hS hA hts hT hW; grind, rfl⟩)⟩) (Nat.le_of_ble_eq_true rfl) (Nat.le_of_ble_eq_true rfl) dX4_unlike_70
      · refine lv_iload hx hb dX4_unlike_41 (lv_at hl 0 rfl) ?_
        refine lv_bipush (v := 6) hx hb dX4_unlike_43 (by decide) ?_
        refine lv_icmp_eq (tgt := 65) hx hb dX4_unlike_45 (by decide) (fun c_8 => ?_) (fun c_8 => ?_)
        · refine lv_iconst (v := 2) hx hb dX4_unlike_65 (by decide) ?_
          refine lv_goto (tgt := 70) hx hb dX4_unlike_66 (by decide) ?_
          exact re_i hx hb hr hlocks hT hA hS hI (⟨rfl, Or.inr (Or.inl ⟨(fun q9 => q9.elim c_1 c_2), by simp only [mayT]; have g1 := lt2 (hW.kd ((hW.1 i9).resolve_left c_1)); have g2 := lt2 (hW.kd ((hW.1 j9).resolve_left c_2)); have g3 : ∀ x y : Int32, y ≤ x ↔ ¬ x < y := fun x y => Int32.not_lt.symm; clear hR hI hS hA hts hT hW; grind, rfl⟩)⟩) (Nat.le_of_ble_eq_true rfl) (Nat.le_of_ble_eq_true rfl) dX4_unlike_70
        · refine lv_iload_n hx hb dX4_unlike_48 rfl (lv_at hl 1 rfl) ?_
          refine lv_iconst (v := 2) hx hb dX4_unlike_49 (by decide) ?_
          refine lv_icmp_lt (tgt := 59) hx hb dX4_unlike_50 (by decide) (fun c_9 => ?_) (fun c_9 => ?_)
          · refine lv_iload_n hx hb dX4_unlike_59 rfl (lv_at hl 1 rfl) ?_
            refine lv_iload hx hb dX4_unlike_60 (lv_at hl 0 rfl) ?_
            refine lv_icmp_eq (tgt := 69) hx hb dX4_unlike_62 (by decide) (fun c_10 => ?_) (fun c_10 => ?_)
            · refine lv_iconst (v := 0) hx hb dX4_unlike_69 (by decide) ?_
              exact re_i hx hb hr hlocks hT hA hS hI (⟨rfl, Or.inr (Or.inr ⟨(fun q9 => q9.elim c_1 c_2), by simp only [mayT]; have g1 := lt2 (hW.kd ((hW.1 i9).resolve_left c_1)); have g2 := lt2 (hW.kd ((hW.1 j9).resolve_left c_2)); have g3 : ∀ x y : Int32, y ≤ x ↔ ¬ x < y := fun x y => Int32.not_lt.symm; clear hR hI hS hA hts hT hW; grind, rfl⟩)⟩) (Nat.le_of_ble_eq_true rfl) (Nat.le_of_ble_eq_true rfl) dX4_unlike_70
            · refine lv_iconst (v := 2) hx hb dX4_unlike_65 (by decide) ?_
              refine lv_goto (tgt := 70) hx hb dX4_unlike_66 (by decide) ?_
              exact re_i hx hb hr hlocks hT hA hS hI (⟨rfl, Or.inr (Or.inl ⟨(fun q9 => q9.elim c_1 c_2), by simp only [mayT]; have g1 := lt2 (hW.kd ((hW.1 i9).resolve_left c_1)); have g2 := lt2 (hW.kd ((hW.1 j9).resolve_left c_2)); have g3 : ∀ x y : Int32, y ≤ x ↔ ¬ x < y := fun x y => Int32.not_lt.symm; clear hR hI hS hA hts hT hW; grind, rfl⟩)⟩) (Nat.le_of_ble_eq_true rfl) (Nat.le_of_ble_eq_true rfl) dX4_unlike_70
          · refine lv_iload hx hb dX4_unlike_53 (lv_at hl 0 rfl) ?_
            refine lv_iconst (v := 2) hx hb dX4_unlike_55 (by decide) ?_
            refine lv_icmp_ge (tgt := 69) hx hb dX4_unlike_56 (by decide) (fun c_11 => ?_) (fun c_11 => ?_)
            · refine lv_iconst (v := 0) hx hb dX4_unlike_69 (by decide) ?_
              exact re_i hx hb hr hlocks hT hA hS hI (⟨rfl, Or.inr (Or.inr ⟨(fun q9 => q9.elim c_1 c_2), by simp only [mayT]; have g1 := lt2 (hW.kd ((hW.1 i9).resolve_left c_1)); have g2 := lt2 (hW.kd ((hW.1 j9).resolve_left c_2)); have g3 : ∀ x y : Int32, y ≤ x ↔ ¬ x < y := fun x y => Int32.not_lt.symm; clear hR hI hS hA hts hT hW; grind, rfl⟩)⟩) (Nat.le_of_ble_eq_true rfl) (Nat.le_of_ble_eq_true rfl) dX4_unlike_70
            · refine lv_iload_n hx hb dX4_unlike_59 rfl (lv_at hl 1 rfl) ?_
              refine lv_iload hx hb dX4_unlike_60 (lv_at hl 0 rfl) ?_
              refine lv_icmp_eq (tgt := 69) hx hb dX4_unlike_62 (by decide) (fun c_12 => ?_) (fun c_12 => ?_)
              · refine lv_iconst (v := 0) hx hb dX4_unlike_69 (by decide) ?_
                exact re_i hx hb hr hlocks hT hA hS hI (⟨rfl, Or.inr (Or.inr ⟨(fun q9 => q9.elim c_1 c_2), by simp only [mayT]; have g1 := lt2 (hW.kd ((hW.1 i9).resolve_left c_1)); have g2 := lt2 (hW.kd ((hW.1 j9).resolve_left c_2)); have g3 : ∀ x y : Int32, y ≤ x ↔ ¬ x < y := fun x y => Int32.not_lt.symm; clear hR hI hS hA hts hT hW; grind, rfl⟩)⟩) (Nat.le_of_ble_eq_true rfl) (Nat.le_of_ble_eq_true rfl) dX4_unlike_70
              · refine lv_iconst (v := 2) hx hb dX4_unlike_65 (by decide) ?_
                refine lv_goto (tgt := 70) hx hb dX4_unlike_66 (by decide) ?_
                exact re_i hx hb hr hlocks hT hA hS hI (⟨rfl, Or.inr (Or.inl ⟨(fun q9 => q9.elim c_1 c_2), by simp only [mayT]; have g1 := lt2 (hW.kd ((hW.1 i9).resolve_left c_1)); have g2 := lt2 (hW.kd ((hW.1 j9).resolve_left c_2)); have g3 : ∀ x y : Int32, y ≤ x ↔ ¬ x < y := fun x y => Int32.not_lt.symm; clear hR hI hS hA hts hT hW; grind, rfl⟩)⟩) (Nat.le_of_ble_eq_true rfl) (Nat.le_of_ble_eq_true rfl) dX4_unlike_70
    · refine lv_iconst (v := 1) hx hb dX4_unlike_20 (by decide) ?_
      exact re_i hx hb hr hlocks hT hA hS hI (⟨rfl, Or.inl ⟨Or.inr c_2, rfl⟩⟩) (Nat.le_of_ble_eq_true rfl) (Nat.le_of_ble_eq_true rfl) dX4_unlike_21

set_option maxHeartbeats 4000000 in
set_option maxRecDepth 100000 in
theorem cc_X4_sumOf (l : Launch) (E : En) (A : Nat → Prop) (w : Wd) {S : Sx} {M : Md} {tt : Nat → Int32} {r9 : Nat} (hr9 : r9 < 520) (hl9 : sLn S r9 ≤ 40) (hR : Rm E S M tt w) : Ct l yX4_sumOf wsX4_sumOf ({ frames := 1, cells := 0, slots := 0, locals := 22 } : Room) E A w [.ref (mH M), .int (nI r9)] (fun r w' => w = w' ∧ r = some (.int (sumF (sIt S r9) (sLn S r9)))) 0 0 := by
  refine Met.ofW (cc := cX4_sumOf) (maxL := 4) (ret := (some .int)) (by decide) rfl ?_
  intro pp0 ee0 s m args below meth cc0 s₁ B hml hv
  obtain ⟨rfl, hT, hI, hA⟩ := hv
  have hx := B.exec
  have hb := B.bytes
  have hr := B.returns
  have hts := atoms_spec (ws := wsX4_sumOf) B.pre
  have hown : s.vm.findClass RX4 = some m.cls := findClass_of_methodNamed B.named
  have hlocks := B.notSynchronized
  have in_X4 : ∀ w ∈ wsX40, w ∈ wsX4_sumOf := by decide +kernel
  have hS : va_S A s.heap s.heap [] := va_S.rf
  have hl := lv_entry ([.ref (mH M), .int (nI r9)]) (n := 4) (Nat.le_of_ble_eq_true rfl)
  rw [lg_entry_eq]
  generalize (lg_sl ([.ref (mH M), .int (nI r9)]) ++ List.replicate (4 - (lg_sl ([.ref (mH M), .int (nI r9)])).length) Slot.unset).toArray = ls at hl ⊢
  have hl : lv_has ls 4 [(0, .ref (mH M)), (1, .int (nI r9))] := hl
  refine lv_iconst (v := 0) hx hb dX4_sumOf_0 (by decide) ?_
  refine lv_istore_n (lv' := [(2, .int 0), (0, .ref (mH M)), (1, .int (nI r9))]) hx hb dX4_sumOf_1 rfl hl (by decide) rfl (fun ls hl => ?_)
  refine lv_iconst (v := 0) hx hb dX4_sumOf_2 (by decide) ?_
  refine lv_istore_n (lv' := [(3, .int 0), (2, .int 0), (0, .ref (mH M)), (1, .int (nI r9))]) hx hb dX4_sumOf_3 rfl hl (by decide) rfl (fun ls hl => ?_)
  refine lp_w (ι := Nat) (fun t => sLn S r9 - t) (fun t H locs ls => (t ≤ sLn S r9) ∧ Hv E A w H ∧ va_S A s.heap H locs ∧ lv_has ls 4 [(0, .ref (mH M)), (1, .int (nI r9)), (2, .int (sumF (sIt S r9) t)), (3, .int (nI t))]) ?_ 0 _ _ _ ⟨Nat.zero_le _, hI, hS, lv_sub hl [2, 3, 1, 0] (rfl)⟩
  intro t H locs ls hq ih
  obtain ⟨ht, hI, hS, hl⟩ := hq
  refine lv_iload_n hx hb dX4_sumOf_4 rfl (lv_at hl 3 rfl) ?_
  refine lv_aload_n hx hb dX4_sumOf_5 rfl (lv_at hl 0 rfl) ?_
  refine wr_get (ci := 3) (C := RX4) (T := TX4) (N := 11) (v := .ref (mL M)) hx hb hts in_X4 hown hT hI hR.1 rfl 4 (by decide) (hts (.fieldLink RX4 16 "CopyRowsModel" "lengths" "[I") (by decide +kernel)) rfl dX4_sumOf_6 ?_
  refine lv_iload_n hx hb dX4_sumOf_9 rfl (lv_at hl 1 rfl) ?_
  refine wr_ialdN (t := r9) (n := 520) (f := lnF S) hx hb hT hI hR.2.2.2.1 (by omega) (by omega) dX4_sumOf_10 ?_
  refine W.eq (g2 := F0 m 11 ls [.int (nI (sLn S r9)), .int (nI t)]) rfl ?_
  refine lv_icmp_ge (tgt := 29) hx hb dX4_sumOf_11 (by decide) (fun c_1 => ?_) (fun c_1 => ?_)
  · have c_1 : sLn S r9 ≤ t := (nI_leI (a := sLn S r9) (b := t) (by omega) (by omega)).mp c_1
    refine lv_iload_n hx hb dX4_sumOf_29 rfl (lv_at hl 2 rfl) ?_
    exact re_i hx hb hr hlocks hT hA hS hI (by
            have e : t = sLn S r9 := by omega
            rw [← e]; exact ⟨rfl, rfl⟩) (Nat.le_of_ble_eq_true rfl) (Nat.le_of_ble_eq_true rfl) dX4_sumOf_30
  · have c_1 : ¬ sLn S r9 ≤ t := fun q => c_1 ((nI_leI (a := sLn S r9) (b := t) (by omega) (by omega)).mpr q)
    refine lv_iload_n hx hb dX4_sumOf_14 rfl (lv_at hl 2 rfl) ?_
    refine lv_aload_n hx hb dX4_sumOf_15 rfl (lv_at hl 0 rfl) ?_
    refine lv_iload_n hx hb dX4_sumOf_16 rfl (lv_at hl 1 rfl) ?_
    refine lv_iload_n hx hb dX4_sumOf_17 rfl (lv_at hl 3 rfl) ?_
    refine ca_V (As := [.int (nI r9), .int (nI t)]) (rest := [.int (sumF (sIt S r9) t)]) (r0 := (RX4, TX4, 11)) (ci := 3) ⟨hx, hb, hml, hown, hts⟩ (cc_X4_get l E A _ hr9 (by omega) hR) (cwV 2 hts gX4_sumOf_X4_get rfl rfl rfl (by decide +kernel) ⟨(Nat.le_of_ble_eq_true rfl), (Nat.le_of_ble_eq_true rfl)⟩) hT hI hA hS rfl hR.1 rfl rfl hl.1 (Nat.le_of_ble_eq_true rfl) dX4_sumOf_18 ⟨(Nat.le_of_ble_eq_true rfl), (Nat.le_of_ble_eq_true rfl)⟩ (fun r w_3 H locs hp_2 hI hS => ?_)
    obtain ⟨rfl, rfl⟩ := hp_2
    refine W.eq (g2 := F0 m 21 ls [.int (sIt S r9 t), .int (sumF (sIt S r9) t)]) rfl ?_
    refine lv_iadd hx hb dX4_sumOf_21 ?_
    refine lv_istore_n (lv' := [(2, .int ((sumF (sIt S r9) t) + (sIt S r9 t))), (0, .ref (mH M)), (1, .int (nI r9)), (3, .int (nI t))]) hx hb dX4_sumOf_22 rfl hl (by decide) rfl (fun ls hl => ?_)
    refine lv_iinc (v := nI (t + 1)) (lv' := [(3, .int (nI (t + 1))), (2, .int ((sumF (sIt S r9) t) + (sIt S r9 t))), (0, .ref (mH M)), (1, .int (nI r9))]) hx hb dX4_sumOf_23 hl (k := 3) rfl (nI_1 _) (by decide) rfl (fun ls hl => ?_)
    refine lv_goto (tgt := 4) hx hb dX4_sumOf_26 (by decide) ?_
    exact ih (t + 1) _ _ _ ⟨by omega, hI, hS, lv_sub hl [2, 3, 1, 0] (rfl)⟩ (by omega)

set_option maxHeartbeats 4000000 in
set_option maxRecDepth 100000 in
theorem cc_X4_sliced (l : Launch) (E : En) (A : Nat → Prop) (w : Wd) {S : Sx} {M : Md} {tt : Nat → Int32} {pj oj i n : Nat} (hpj : pj < 12) (hoj : oj < 12) (hr9 : vR S (sPl S oj)) (hin9 : i + n ≤ lnv S (sPl S oj)) (hb9 : sNr S < 512) (hW : Wf S) (hR : Rm E S M tt w) : Ct l yX4_sliced wsX4_sliced ({ frames := 2, cells := 0, slots := 0, locals := 46 } : Room) E A w [.ref (mH M), .int (nI pj), .int (nI oj), .int (nI i), .int (nI n)] (fun r w' => r = some (.int (nI n)) ∧ Rm E (uCod (uPl (uNew S (kdv S (sPl S oj)) n (va_cpy (itv S (sPl S oj)) (ini (kdv S (sPl S oj))) i 0 n)) pj (nI (sNr S))) 0) M tt w') 0 0 := by
  refine Met.ofW (cc := cX4_sliced) (maxL := 8) (ret := (some .int)) (by decide) rfl ?_
  intro pp0 ee0 s m args below meth cc0 s₁ B hml hv
  obtain ⟨rfl, hT, hI, hA⟩ := hv
  have hx := B.exec
  have hb := B.bytes
  have hr := B.returns
  have hts := atoms_spec (ws := wsX4_sliced) B.pre
  have hown : s.vm.findClass RX4 = some m.cls := findClass_of_methodNamed B.named
  have hlocks := B.notSynchronized
  have in_X4 : ∀ w ∈ wsX40, w ∈ wsX4_sliced := by decide +kernel
  have hS : va_S A s.heap s.heap [] := va_S.rf
  have hl := lv_entry ([.ref (mH M), .int (nI pj), .int (nI oj), .int (nI i), .int (nI n)]) (n := 8) (Nat.le_of_ble_eq_true rfl)
  rw [lg_entry_eq]
  generalize (lg_sl ([.ref (mH M), .int (nI pj), .int (nI oj), .int (nI i), .int (nI n)]) ++ List.replicate (8 - (lg_sl ([.ref (mH M), .int (nI pj), .int (nI oj), .int (nI i), .int (nI n)])).length) Slot.unset).toArray = ls at hl ⊢
  have hl : lv_has ls 8 [(0, .ref (mH M)), (1, .int (nI pj)), (2, .int (nI oj)), (3, .int (nI i)), (4, .int (nI n))] := hl
  refine lv_aload_n hx hb dX4_sliced_0 rfl (lv_at hl 0 rfl) ?_
  refine wr_get (ci := 3) (C := RX4) (T := TX4) (N := 11) (v := .ref (mP M)) hx hb hts in_X4 hown hT hI hR.1 rfl 1 (by decide) (hts (.fieldLink RX4 7 "CopyRowsModel" "places" "[I") (by decide +kernel)) rfl dX4_sliced_1 ?_
  refine lv_iload_n hx hb dX4_sliced_4 rfl (lv_at hl 2 rfl) ?_
  refine wr_ialdN (t := oj) (n := 12) (f := plF S) hx hb hT hI hR.2.1 (by omega) (by omega) dX4_sliced_5 ?_
  refine W.eq (g2 := F0 m 6 ls [.int (sPl S oj)]) (by rw [plF_at (by omega)]) ?_
  refine lv_istore (lv' := [(5, .int (sPl S oj)), (0, .ref (mH M)), (1, .int (nI pj)), (2, .int (nI oj)), (3, .int (nI i)), (4, .int (nI n))]) hx hb dX4_sliced_6 hl (by decide) rfl (fun ls hl => ?_)
  refine lv_aload_n hx hb dX4_sliced_8 rfl (lv_at hl 1 rfl) ?_
  refine lv_aload_n hx hb dX4_sliced_9 rfl (lv_at hl 1 rfl) ?_
  refine wr_get (ci := 3) (C := RX4) (T := TX4) (N := 11) (v := .ref (mK M)) hx hb hts in_X4 hown hT hI hR.1 rfl 3 (by decide) (hts (.fieldLink RX4 13 "CopyRowsModel" "kinds" "[I") (by decide +kernel)) rfl dX4_sliced_10 ?_
  refine lv_iload hx hb dX4_sliced_13 (lv_at hl 0 rfl) ?_
  refine W.eq (g2 := F0 m 15 ls [.int (nI (ix (sPl S oj))), .ref (mK M), .ref (mH M)]) (by rw [nI_ix hr9.1]) ?_
  refine wr_ialdN (t := ix (sPl S oj)) (n := 520) (f := sKd S) hx hb hT hI hR.2.2.1 (by have h9 := hr9.2; have h8 := hW.2.2.2; omega) (by omega) dX4_sliced_15 ?_
  refine W.eq (g2 := F0 m 16 ls [.int (kdv S (sPl S oj)), .ref (mH M)]) (by rw [kdv_r hr9]) ?_
  refine lv_iload hx hb dX4_sliced_16 (lv_at hl 5 rfl) ?_
  refine ca_V (As := [.int (kdv S (sPl S oj)), .int (nI n)]) (rest := []) (r0 := (RX4, TX4, 11)) (ci := 3) ⟨hx, hb, hml, hown, hts⟩ (cc_X4_newRow l E A _ (kdv S (sPl S oj)) n (lt2 (hW.kd (Or.inl hr9))) (by omega) hR) (cwV 2 hts gX4_sliced_X4_newRow rfl rfl rfl (by decide +kernel) ⟨(Nat.le_of_ble_eq_true rfl), (Nat.le_of_ble_eq_true rfl)⟩) hT hI hA hS rfl hR.1 rfl rfl hl.1 (Nat.le_of_ble_eq_true rfl) dX4_sliced_18 ⟨(Nat.le_of_ble_eq_true rfl), (Nat.le_of_ble_eq_true rfl)⟩ (fun r w_2 H locs hp_1 hI hS => ?_)
  obtain ⟨rfl, hR⟩ := hp_1
  refine W.eq (g2 := F0 m 21 ls [.int (nI (sNr S))]) rfl ?_
  refine lv_istore (lv' := [(6, .int (nI (sNr S))), (5, .int (sPl S oj)), (0, .ref (mH M)), (1, .int (nI pj)), (2, .int (nI oj)), (3, .int (nI i)), (4, .int (nI n))]) hx hb dX4_sliced_21 hl (by decide) rfl (fun ls hl => ?_)
  refine lv_iconst (v := 0) hx hb dX4_sliced_23 (by decide) ?_
  refine lv_istore (lv' := [(7, .int 0), (6, .int (nI (sNr S))), (5, .int (sPl S oj)), (0, .ref (mH M)), (1, .int (nI pj)), (2, .int (nI oj)), (3, .int (nI i)), (4, .int (nI n))]) hx hb dX4_sliced_24 hl (by decide) rfl (fun ls hl => ?_)
  have hV : ix (sPl S oj) < sNr S := hr9.2
  have hl40 := hW.ln (Or.inl hr9)
  refine lp_w (ι := Nat) (fun t => n - t) (fun t H locs ls => (t ≤ n) ∧ (∃ w9, Hv E A w9 H ∧ Rm E (uRow (uNew S (kdv S (sPl S oj)) n (ini (kdv S (sPl S oj)))) (sNr S) (fun j9 => if j9 < t then itv S (sPl S oj) (i + j9) else ini (kdv S (sPl S oj)) j9)) M tt w9) ∧ va_S A s.heap H locs ∧ lv_has ls 8 [(0, .ref (mH M)), (1, .int (nI pj)), (3, .int (nI i)), (4, .int (nI n)), (5, .int (sPl S oj)), (6, .int (nI (sNr S))), (7, .int (nI t))]) ?_ 0 _ _ _ ⟨Nat.zero_le _, ⟨_, hI, hR.same rfl rfl rfl rfl (fun r9 k9 _ _ => by by_cases e9 : r9 = S.2.2.1 <;> simp [sIt, uRow, uNew, va_up, e9, sNr]) rfl rfl rfl rfl rfl⟩, hS, lv_sub hl [3, 4, 6, 7, 2, 1, 0] rfl⟩
  rintro t H locs ls ⟨ht, ⟨w9, hI, hR⟩, hS, hl⟩ ih
  refine lv_iload hx hb dX4_sliced_26 (lv_at hl 6 rfl) ?_
  refine lv_iload hx hb dX4_sliced_28 (lv_at hl 3 rfl) ?_
  refine lv_icmp_ge (tgt := 57) hx hb dX4_sliced_30 (by decide) (fun c_3 => ?_) (fun c_3 => ?_)
  · have c_3 : n ≤ t := (nI_leI (a := n) (b := t) (by omega) (by omega)).mp c_3
    refine lv_aload_n hx hb dX4_sliced_57 rfl (lv_at hl 0 rfl) ?_
    refine wr_get (ci := 3) (C := RX4) (T := TX4) (N := 11) (v := .ref (mP M)) hx hb hts in_X4 hown hT hI hR.1 rfl 1 (by decide) (hts (.fieldLink RX4 7 "CopyRowsModel" "places" "[I") (by decide +kernel)) rfl dX4_sliced_58 ?_
    refine lv_iload_n hx hb dX4_sliced_61 rfl (lv_at hl 1 rfl) ?_
    refine lv_iload hx hb dX4_sliced_62 (lv_at hl 5 rfl) ?_
    refine wr_iastN (t := pj) (n := 12) (f := plF S) hx hb hT hI hS hR.2.1 (by omega) (by omega) dX4_sliced_64 (fun H locs hI hS => ?_)
    have hR := hR.pl (j := pj) (by omega) (nI (sNr S))
    refine lv_aload_n hx hb dX4_sliced_65 rfl (lv_at hl 0 rfl) ?_
    refine lv_iload hx hb dX4_sliced_66 (lv_at hl 3 rfl) ?_
    refine ca_V (As := [.int (nI n)]) (rest := []) (r0 := (RX4, TX4, 11)) (ci := 3) ⟨hx, hb, hml, hown, hts⟩ (cc_X4_yes l E A _ (nI n) hR) (cwV 1 hts gX4_sliced_X4_yes rfl rfl rfl (by decide +kernel) ⟨(Nat.le_of_ble_eq_true rfl), (Nat.le_of_ble_eq_true rfl)⟩) hT hI hA hS rfl hR.1 rfl rfl hl.1 (Nat.le_of_ble_eq_true rfl) dX4_sliced_68 ⟨(Nat.le_of_ble_eq_true rfl), (Nat.le_of_ble_eq_true rfl)⟩ (fun r w_5 H locs hp_4 hI hS => ?_)
    obtain ⟨rfl, hR⟩ := hp_4
    refine W.eq (g2 := F0 m 71 ls [.int (nI n)]) rfl ?_
    exact re_i hx hb hr hlocks hT hA hS hI (⟨rfl, hR.same rfl rfl rfl rfl (fun r9 k9 _ _ => by
            have e7 : t = n := by omega
            subst e7
            by_cases e9 : r9 = S.2.2.1
            · subst e9
              by_cases e8 : k9 < t <;> simp [sIt, uCod, uPl, uRow, uNew, va_up, va_cpy, e8, sNr]
            · simp [sIt, uCod, uPl, uRow, uNew, va_up, e9, sNr]) rfl rfl rfl rfl rfl⟩) (Nat.le_of_ble_eq_true rfl) (Nat.le_of_ble_eq_true rfl) dX4_sliced_71
  · have c_3 : ¬ n ≤ t := fun q => c_3 ((nI_leI (a := n) (b := t) (by omega) (by omega)).mpr q)
    refine lv_aload_n hx hb dX4_sliced_33 rfl (lv_at hl 0 rfl) ?_
    refine lv_iload hx hb dX4_sliced_34 (lv_at hl 5 rfl) ?_
    refine lv_iload hx hb dX4_sliced_36 (lv_at hl 6 rfl) ?_
    refine lv_aload_n hx hb dX4_sliced_38 rfl (lv_at hl 0 rfl) ?_
    refine lv_iload hx hb dX4_sliced_39 (lv_at hl 4 rfl) ?_
    refine lv_iload_n hx hb dX4_sliced_41 rfl (lv_at hl 2 rfl) ?_
    refine lv_iload hx hb dX4_sliced_42 (lv_at hl 6 rfl) ?_
    refine lv_iadd hx hb dX4_sliced_44 ?_
    refine W.eq (g2 := F0 m 45 ls [.int (nI (i + t)), .int (sPl S oj), .ref (mH M), .int (nI t), .int (nI (sNr S)), .ref (mH M)]) (by rw [show (nI i : Int32) + nI t = nI (i + t) from nI_add i t]) ?_
    refine ca_V (As := [.int (sPl S oj), .int (nI (i + t))]) (rest := [.int (nI t), .int (nI (sNr S)), .ref (mH M)]) (r0 := (RX4, TX4, 11)) (ci := 3) ⟨hx, hb, hml, hown, hts⟩ (cM_get l E A _ (S := (uRow (uNew S (kdv S (sPl S oj)) n (ini (kdv S (sPl S oj)))) (sNr S) (fun j9 => if j9 < t then itv S (sPl S oj) (i + j9) else ini (kdv S (sPl S oj)) j9))) (v := sPl S oj) ⟨hr9.1, Nat.lt_succ_of_lt hr9.2⟩ (by show sNr S + 1 ≤ 512; omega) (by omega) hR) (cwV 2 hts gX4_sliced_X4_get rfl rfl rfl (by decide +kernel) ⟨(Nat.le_of_ble_eq_true rfl), (Nat.le_of_ble_eq_true rfl)⟩) hT hI hA hS rfl hR.1 rfl rfl hl.1 (Nat.le_of_ble_eq_true rfl) dX4_sliced_45 ⟨(Nat.le_of_ble_eq_true rfl), (Nat.le_of_ble_eq_true rfl)⟩ (fun r w_7 H locs hp_6 hI hS => ?_)
    obtain ⟨rfl, rfl⟩ := hp_6
    rw [show itv (uRow (uNew S (kdv S (sPl S oj)) n (ini (kdv S (sPl S oj)))) (sNr S) (fun j9 => if j9 < t then itv S (sPl S oj) (i + j9) else ini (kdv S (sPl S oj)) j9)) (sPl S oj) (i + t) = itv S (sPl S oj) (i + t) from by
      have hne : ¬ ix (sPl S oj) = S.2.2.1 := fun e9 => by have h9 : ix (sPl S oj) < S.2.2.1 := hV; omega
      rw [itv_r (S := (uRow (uNew S (kdv S (sPl S oj)) n (ini (kdv S (sPl S oj)))) (sNr S) (fun j9 => if j9 < t then itv S (sPl S oj) (i + j9) else ini (kdv S (sPl S oj)) j9))) ⟨hr9.1, Nat.lt_succ_of_lt hr9.2⟩, itv_r hr9]; simp [sIt, uRow, uNew, va_up, hne, sNr]]
    refine W.eq (g2 := F0 m 48 ls [.int (itv S (sPl S oj) (i + t)), .int (nI t), .int (nI (sNr S)), .ref (mH M)]) rfl ?_
    refine ca_V (As := [.int (nI (sNr S)), .int (nI t), .int (itv S (sPl S oj) (i + t))]) (rest := []) (r0 := (RX4, TX4, 11)) (ci := 3) ⟨hx, hb, hml, hown, hts⟩ (cc_X4_put l E A _ (r9 := sNr S) (by omega) (by omega) (itv S (sPl S oj) (i + t)) hR) (cwV 3 hts gX4_sliced_X4_put rfl rfl rfl (by decide +kernel) ⟨(Nat.le_of_ble_eq_true rfl), (Nat.le_of_ble_eq_true rfl)⟩) hT hI hA hS rfl hR.1 rfl rfl hl.1 (Nat.le_of_ble_eq_true rfl) dX4_sliced_48 ⟨(Nat.le_of_ble_eq_true rfl), (Nat.le_of_ble_eq_true rfl)⟩ (fun r w_9 H locs hp_8 hI hS => ?_)
    obtain ⟨rfl, hR⟩ := hp_8
    refine W.eq (g2 := F0 m 51 ls []) rfl ?_
    refine lv_iinc (v := nI (t + 1)) (lv' := [(7, .int (nI (t + 1))), (0, .ref (mH M)), (1, .int (nI pj)), (3, .int (nI i)), (4, .int (nI n)), (5, .int (sPl S oj)), (6, .int (nI (sNr S)))]) hx hb dX4_sliced_51 hl (k := 6) rfl (nI_1 _) (by decide) rfl (fun ls hl => ?_)
    refine lv_goto (tgt := 26) hx hb dX4_sliced_54 (by decide) ?_
    refine ih (t + 1) _ _ _ ⟨by omega, ⟨_, hI, hR.same rfl rfl rfl rfl (fun r9 k9 _ _ => ?_) rfl rfl rfl rfl rfl⟩, hS, lv_sub hl [1, 2, 3, 4, 5, 6, 0] rfl⟩ (by omega)
    by_cases e9 : r9 = S.2.2.1
    · subst e9
      by_cases e8 : k9 = t
      · subst e8; simp [sIt, uRow, va_up, upd, sNr]
      · by_cases e7 : k9 < t
        · have e6 : k9 < t + 1 := by omega
          simp [sIt, uRow, va_up, upd, e8, e7, e6, sNr]
        · have e6 : ¬ k9 < t + 1 := by omega
          simp [sIt, uRow, va_up, upd, e8, e7, e6, sNr]
    · simp [sIt, uRow, va_up, e9, sNr]
