theorem cM_sumOf (l : Launch) (E : En) (A : Nat → Prop) (w : Wd) {S : Sx} {M : Md} {tt : Nat → Int32} {v : Int32} (hv : vR S v) (hW : Wf S) (hR : Rm E S M tt w) : Ct l yX4_sumOf wsX4_sumOf ({ frames := 1, cells := 0, slots := 0, locals := 22 } : Room) E A w [.ref (mH M), .int v] (fun r w' => w = w' ∧ r = some (.int (sumF (itv S v) (lnv S v)))) 0 0 := by
  have h := cc_X4_sumOf l E A w (S := S) (M := M) (tt := tt) (r9 := ix v) (by have := hv.2; have := hW.2.2.2; omega) (hW.2.1 _ hv.2).2.1 hR
  rw [nI_ix hv.1] at h
  rw [itv_r hv, lnv_r hv]
  exact h
theorem add64 {i k : Int32} : (i.toInt64 + k.toInt64).toInt = i.toInt + k.toInt := by
  rw [Int64.toInt_add, Int32.toInt_toInt64, Int32.toInt_toInt64]
  have h1 := Int32.le_toInt i
  have h2 := Int32.toInt_lt i
  have h3 := Int32.le_toInt k
  have h4 := Int32.toInt_lt k
  apply Int.bmod_eq_of_le <;> omega
theorem rg64 {n : Nat} {i k : Int32} (hn : n ≤ 40) (hi : ¬ i < 0) (hk : ¬ k < 0) : lg_cmp (i.toInt64 + k.toInt64) (nI n).toInt64 ≤ 0 ↔ rg n i k := by
  rw [lg_cmp_le, Int64.le_iff_toInt_le, add64, Int32.toInt_toInt64, nI_toInt (by omega)]
  rw [Int32.lt_iff_toInt_lt, show (0 : Int32).toInt = 0 by decide] at hi hk
  constructor
  · intro h; exact ⟨by omega, by omega, h⟩
  · intro h; exact h.2.2
theorem rg_i {n : Nat} {i k : Int32} (h : rg n i k) : ¬ i < 0 := by
  rw [Int32.lt_iff_toInt_lt, show (0 : Int32).toInt = 0 by decide]
  have := h.1
  omega
theorem rg_k {n : Nat} {i k : Int32} (h : rg n i k) : ¬ k < 0 := by
  rw [Int32.lt_iff_toInt_lt, show (0 : Int32).toInt = 0 by decide]
  have := h.2.1
  omega
theorem le2 {S : Sx} (hW : Wf S) {v : Int32} (hv : vO S v) : kdv S v ≤ 2 ↔ (isN (kdv S v) ∨ kdv S v = 2) := by
  rcases kd_cases (hW.kd hv).1 (hW.kd hv).2 with q | q | q | q | q | q | q <;> rw [q] <;> decide
set_option maxHeartbeats 4000000 in
set_option maxRecDepth 100000 in
theorem cc_X4_copy (l : Launch) (E : En) (A : Nat → Prop) (w : Wd) {S : Sx} {M : Md} {tt : Nat → Int32} (p o : Int32) (hW : Wf S) (hR : Rm E S M tt w) (hb9 : sNr S < 512 ∧ sNt S < 512 ∧ sNl S < 512) : Ct l yX4_copy wsX4_copy ({ frames := 3, cells := 0, slots := 0, locals := 73 } : Room) E A w [.ref (mH M), .int p, .int o] (fun r w' => PoM E M (sp_copy S p o) r w') 0 0 := by
  refine Met.ofW (cc := cX4_copy) (maxL := 4) (ret := (some .int)) (by decide) rfl ?_
  intro pp0 ee0 s m args below meth cc0 s₁ B hml hv
  obtain ⟨rfl, hT, hI, hA⟩ := hv
  have hx := B.exec
  have hb := B.bytes
  have hr := B.returns
  have hts := atoms_spec (ws := wsX4_copy) B.pre
  have hown : s.vm.findClass RX4 = some m.cls := findClass_of_methodNamed B.named
  have hlocks := B.notSynchronized
  have hS : va_S A s.heap s.heap [] := va_S.rf
  have hl := lv_entry ([.ref (mH M), .int p, .int o]) (n := 4) (Nat.le_of_ble_eq_true rfl)
  rw [lg_entry_eq]
  generalize (lg_sl ([.ref (mH M), .int p, .int o]) ++ List.replicate (4 - (lg_sl ([.ref (mH M), .int p, .int o])).length) Slot.unset).toArray = ls at hl ⊢
  have hl : lv_has ls 4 [(0, .ref (mH M)), (1, .int p), (2, .int o)] := hl
  refine lv_iload_n hx hb dX4_copy_0 rfl (lv_at hl 1 rfl) ?_
  refine ca_S (As := [.int p]) (rest := []) ⟨hx, hb, hml, hown, hts⟩ (cc_X4_isPlace l E A _ p) (va_cwS 1 hts gX4_copy_X4_isPlace rfl rfl rfl (by decide +kernel) ⟨(Nat.le_of_ble_eq_true rfl), (Nat.le_of_ble_eq_true rfl)⟩) hT hI hA hS rfl rfl hl.1 (Nat.le_of_ble_eq_true rfl) dX4_copy_1 ⟨(Nat.le_of_ble_eq_true rfl), (Nat.le_of_ble_eq_true rfl)⟩ (fun r w_2 H locs hp_1 hI hS => ?_)
  obtain ⟨rfl, ⟨ho_3, rfl⟩ | ⟨ho_3, rfl⟩⟩ := hp_1
  · refine W.eq (g2 := F0 m 4 ls [.int 1]) rfl ?_
    refine lv_if_eq (tgt := 14) hx hb dX4_copy_4 (by decide) (fun c => absurd c (by decide)) (fun _ => ?_)
    refine lv_iload_n hx hb dX4_copy_7 rfl (lv_at hl 2 rfl) ?_
    refine ca_S (As := [.int o]) (rest := []) ⟨hx, hb, hml, hown, hts⟩ (cc_X4_isPlace l E A _ o) (va_cwS 1 hts gX4_copy_X4_isPlace rfl rfl rfl (by decide +kernel) ⟨(Nat.le_of_ble_eq_true rfl), (Nat.le_of_ble_eq_true rfl)⟩) hT hI hA hS rfl rfl hl.1 (Nat.le_of_ble_eq_true rfl) dX4_copy_8 ⟨(Nat.le_of_ble_eq_true rfl), (Nat.le_of_ble_eq_true rfl)⟩ (fun r w_5 H locs hp_4 hI hS => ?_)
    obtain ⟨rfl, ⟨ho_6, rfl⟩ | ⟨ho_6, rfl⟩⟩ := hp_4
    · refine W.eq (g2 := F0 m 11 ls [.int 1]) rfl ?_
      refine lv_if_ne (tgt := 17) hx hb dX4_copy_11 (by decide) (fun _ => ?_) (fun c => absurd c (by decide))
      obtain ⟨pj, hpj, rfl⟩ := isP_nat ho_3
      obtain ⟨oj, hoj, rfl⟩ := isP_nat ho_6
      refine lv_aload_n hx hb dX4_copy_17 rfl (lv_at hl 0 rfl) ?_
      refine lv_iload_n hx hb dX4_copy_18 rfl (lv_at hl 2 rfl) ?_
      refine ca_V (As := [.int (nI oj)]) (rest := []) (r0 := (RX4, TX4, 11)) (ci := 3) ⟨hx, hb, hml, hown, hts⟩ (cc_X4_wantsRow l E A _ (by omega) hW hR) (cwV 1 hts gX4_copy_X4_wantsRow rfl rfl rfl (by decide +kernel) ⟨(Nat.le_of_ble_eq_true rfl), (Nat.le_of_ble_eq_true rfl)⟩) hT hI hA hS rfl hR.1 rfl rfl hl.1 (Nat.le_of_ble_eq_true rfl) dX4_copy_19 ⟨(Nat.le_of_ble_eq_true rfl), (Nat.le_of_ble_eq_true rfl)⟩ (fun r w_8 H locs hp_7 hI hS => ?_)
      obtain ⟨rfl, ⟨ez9, rfl⟩ | ⟨ez9, e69, rfl⟩ | ⟨ez9, hr9, rfl⟩⟩ := hp_7
      · refine W.eq (g2 := F0 m 22 ls [.int 1]) rfl ?_
        refine lv_istore_n (lv' := [(3, .int 1), (0, .ref (mH M)), (1, .int (nI pj)), (2, .int (nI oj))]) hx hb dX4_copy_22 rfl hl (by decide) rfl (fun ls hl => ?_)
        refine lv_iload_n hx hb dX4_copy_23 rfl (lv_at hl 0 rfl) ?_
        refine lv_if_eq (tgt := 35) hx hb dX4_copy_24 (by decide) (fun c => absurd c (by decide)) (fun _ => ?_)
        refine lv_aload_n hx hb dX4_copy_27 rfl (lv_at hl 1 rfl) ?_
        refine lv_iload_n hx hb dX4_copy_28 rfl (lv_at hl 0 rfl) ?_
        refine ca_V (As := [.int 1]) (rest := []) (r0 := (RX4, TX4, 11)) (ci := 3) ⟨hx, hb, hml, hown, hts⟩ (cc_X4_no l E A _ 1 hR) (cwV 1 hts gX4_copy_X4_no rfl rfl rfl (by decide +kernel) ⟨(Nat.le_of_ble_eq_true rfl), (Nat.le_of_ble_eq_true rfl)⟩) hT hI hA hS rfl hR.1 rfl rfl hl.1 (Nat.le_of_ble_eq_true rfl) dX4_copy_29 ⟨(Nat.le_of_ble_eq_true rfl), (Nat.le_of_ble_eq_true rfl)⟩ (fun r w_11 H locs hp_10 hI hS => ?_)
        obtain ⟨rfl, hR⟩ := hp_10
        refine W.eq (g2 := F0 m 32 ls [.int 0]) rfl ?_
        refine lv_goto (tgt := 47) hx hb dX4_copy_32 (by decide) ?_
        exact re_i hx hb hr hlocks hT hA hS hI (PoM.of (by
                    unfold sp_copy
                    try simp only [pv_nI hpj, pv_nI hoj]
                    rw [if_neg ((fun q => q.elim ho_3 ho_6)), if_pos (ez9)]
                    try rw [ix_nI (show pj < 2 ^ 31 by omega)]
                    try rfl) hR) (Nat.le_of_ble_eq_true rfl) (Nat.le_of_ble_eq_true rfl) dX4_copy_47
      · refine W.eq (g2 := F0 m 22 ls [.int 5]) rfl ?_
        refine lv_istore_n (lv' := [(3, .int 5), (0, .ref (mH M)), (1, .int (nI pj)), (2, .int (nI oj))]) hx hb dX4_copy_22 rfl hl (by decide) rfl (fun ls hl => ?_)
        refine lv_iload_n hx hb dX4_copy_23 rfl (lv_at hl 0 rfl) ?_
        refine lv_if_eq (tgt := 35) hx hb dX4_copy_24 (by decide) (fun c => absurd c (by decide)) (fun _ => ?_)
        refine lv_aload_n hx hb dX4_copy_27 rfl (lv_at hl 1 rfl) ?_
        refine lv_iload_n hx hb dX4_copy_28 rfl (lv_at hl 0 rfl) ?_
        refine ca_V (As := [.int 5]) (rest := []) (r0 := (RX4, TX4, 11)) (ci := 3) ⟨hx, hb, hml, hown, hts⟩ (cc_X4_no l E A _ 5 hR) (cwV 1 hts gX4_copy_X4_no rfl rfl rfl (by decide +kernel) ⟨(Nat.le_of_ble_eq_true rfl), (Nat.le_of_ble_eq_true rfl)⟩) hT hI hA hS rfl hR.1 rfl rfl hl.1 (Nat.le_of_ble_eq_true rfl) dX4_copy_29 ⟨(Nat.le_of_ble_eq_true rfl), (Nat.le_of_ble_eq_true rfl)⟩ (fun r w_13 H locs hp_12 hI hS => ?_)
        obtain ⟨rfl, hR⟩ := hp_12
        refine W.eq (g2 := F0 m 32 ls [.int 0]) rfl ?_
        refine lv_goto (tgt := 47) hx hb dX4_copy_32 (by decide) ?_
        exact re_i hx hb hr hlocks hT hA hS hI (PoM.of (by
                    unfold sp_copy
                    try simp only [pv_nI hpj, pv_nI hoj]
                    rw [if_neg ((fun q => q.elim ho_3 ho_6)), if_neg (ez9), if_pos (e69)]
                    try rw [ix_nI (show pj < 2 ^ 31 by omega)]
                    try rfl) hR) (Nat.le_of_ble_eq_true rfl) (Nat.le_of_ble_eq_true rfl) dX4_copy_47
      · have hln9 := hW.ln (Or.inl hr9)
        refine W.eq (g2 := F0 m 22 ls [.int 0]) rfl ?_
        refine lv_istore_n (lv' := [(3, .int 0), (0, .ref (mH M)), (1, .int (nI pj)), (2, .int (nI oj))]) hx hb dX4_copy_22 rfl hl (by decide) rfl (fun ls hl => ?_)
        refine lv_iload_n hx hb dX4_copy_23 rfl (lv_at hl 0 rfl) ?_
        refine lv_if_eq (tgt := 35) hx hb dX4_copy_24 (by decide) (fun _ => ?_) (fun c => absurd c (by decide))
        refine lv_aload_n hx hb dX4_copy_35 rfl (lv_at hl 1 rfl) ?_
        refine lv_iload_n hx hb dX4_copy_36 rfl (lv_at hl 2 rfl) ?_
        refine lv_iload_n hx hb dX4_copy_37 rfl (lv_at hl 3 rfl) ?_
        refine lv_iconst (v := 0) hx hb dX4_copy_38 (by decide) ?_
        refine lv_aload_n hx hb dX4_copy_39 rfl (lv_at hl 1 rfl) ?_
        refine lv_iload_n hx hb dX4_copy_40 rfl (lv_at hl 3 rfl) ?_
        refine ca_V (As := [.int (nI oj)]) (rest := [.int 0, .int (nI oj), .int (nI pj), .ref (mH M)]) (r0 := (RX4, TX4, 11)) (ci := 3) ⟨hx, hb, hml, hown, hts⟩ (cc_X4_lengthOf l E A _ (by omega) hW hR hr9) (cwV 1 hts gX4_copy_X4_lengthOf rfl rfl rfl (by decide +kernel) ⟨(Nat.le_of_ble_eq_true rfl), (Nat.le_of_ble_eq_true rfl)⟩) hT hI hA hS rfl hR.1 rfl rfl hl.1 (Nat.le_of_ble_eq_true rfl) dX4_copy_41 ⟨(Nat.le_of_ble_eq_true rfl), (Nat.le_of_ble_eq_true rfl)⟩ (fun r w_15 H locs hp_14 hI hS => ?_)
        obtain ⟨rfl, rfl⟩ := hp_14
        refine W.eq (g2 := F0 m 44 ls [.int (nI (lnv S (sPl S oj))), .int 0, .int (nI oj), .int (nI pj), .ref (mH M)]) rfl ?_
        refine ca_V (As := [.int (nI pj), .int (nI oj), .int 0, .int (nI (lnv S (sPl S oj)))]) (rest := []) (r0 := (RX4, TX4, 11)) (ci := 3) ⟨hx, hb, hml, hown, hts⟩ (cc_X4_sliced l E A _ (pj := pj) (oj := oj) (i := 0) (n := lnv S (sPl S oj)) (by omega) (by omega) hr9 (by omega) hb9.1 hW hR) (cwV 4 hts gX4_copy_X4_sliced rfl rfl rfl (by decide +kernel) ⟨(Nat.le_of_ble_eq_true rfl), (Nat.le_of_ble_eq_true rfl)⟩) hT hI hA hS rfl hR.1 rfl rfl hl.1 (Nat.le_of_ble_eq_true rfl) dX4_copy_44 ⟨(Nat.le_of_ble_eq_true rfl), (Nat.le_of_ble_eq_true rfl)⟩ (fun r w_17 H locs hp_16 hI hS => ?_)
        obtain ⟨rfl, hR⟩ := hp_16
        refine W.eq (g2 := F0 m 47 ls [.int (nI (lnv S (sPl S oj)))]) rfl ?_
        exact re_i hx hb hr hlocks hT hA hS hI (PoM.of (by
                    unfold sp_copy
                    try simp only [pv_nI hpj, pv_nI hoj]
                    rw [if_neg ((fun q => q.elim ho_3 ho_6)), if_neg (ez9), if_neg ((row_kd hW hr9))]
                    try rw [ix_nI (show pj < 2 ^ 31 by omega)]
                    try rfl) hR) (Nat.le_of_ble_eq_true rfl) (Nat.le_of_ble_eq_true rfl) dX4_copy_47
    · have ho_6 : oP o := Classical.not_not.mp ho_6
      refine W.eq (g2 := F0 m 11 ls [.int 0]) rfl ?_
      refine lv_if_ne (tgt := 17) hx hb dX4_copy_11 (by decide) (fun c => absurd c (by decide)) (fun _ => ?_)
      refine lv_ldc (v := -2000000001) hx hb hown (hts (.constant RX4 54 (-2000000001)) (by decide +kernel)) dX4_copy_14 ?_
      exact re_i hx hb hr hlocks hT hA hS hI (PoM.of (by
                unfold sp_copy
                rw [if_pos (Or.inr (ho_6))]) hR) (Nat.le_of_ble_eq_true rfl) (Nat.le_of_ble_eq_true rfl) dX4_copy_16
  · have ho_3 : oP p := Classical.not_not.mp ho_3
    refine W.eq (g2 := F0 m 4 ls [.int 0]) rfl ?_
    refine lv_if_eq (tgt := 14) hx hb dX4_copy_4 (by decide) (fun _ => ?_) (fun c => absurd c (by decide))
    refine lv_ldc (v := -2000000001) hx hb hown (hts (.constant RX4 54 (-2000000001)) (by decide +kernel)) dX4_copy_14 ?_
    exact re_i hx hb hr hlocks hT hA hS hI (PoM.of (by
            unfold sp_copy
            rw [if_pos (Or.inl ho_3)]) hR) (Nat.le_of_ble_eq_true rfl) (Nat.le_of_ble_eq_true rfl) dX4_copy_16

set_option maxHeartbeats 4000000 in
set_option maxRecDepth 100000 in
theorem cc_X4_slice (l : Launch) (E : En) (A : Nat → Prop) (w : Wd) {S : Sx} {M : Md} {tt : Nat → Int32} (p o i n : Int32) (hW : Wf S) (hR : Rm E S M tt w) (hb9 : sNr S < 512 ∧ sNt S < 512 ∧ sNl S < 512) : Ct l yX4_slice wsX4_slice ({ frames := 3, cells := 0, slots := 0, locals := 73 } : Room) E A w [.ref (mH M), .int p, .int o, .int i, .int n] (fun r w' => PoM E M (sp_slice S p o i n) r w') 0 0 := by
  refine Met.ofW (cc := cX4_slice) (maxL := 6) (ret := (some .int)) (by decide) rfl ?_
  intro pp0 ee0 s m args below meth cc0 s₁ B hml hv
  obtain ⟨rfl, hT, hI, hA⟩ := hv
  have hx := B.exec
  have hb := B.bytes
  have hr := B.returns
  have hts := atoms_spec (ws := wsX4_slice) B.pre
  have hown : s.vm.findClass RX4 = some m.cls := findClass_of_methodNamed B.named
  have hlocks := B.notSynchronized
  have hS : va_S A s.heap s.heap [] := va_S.rf
  have hl := lv_entry ([.ref (mH M), .int p, .int o, .int i, .int n]) (n := 6) (Nat.le_of_ble_eq_true rfl)
  rw [lg_entry_eq]
  generalize (lg_sl ([.ref (mH M), .int p, .int o, .int i, .int n]) ++ List.replicate (6 - (lg_sl ([.ref (mH M), .int p, .int o, .int i, .int n])).length) Slot.unset).toArray = ls at hl ⊢
  have hl : lv_has ls 6 [(0, .ref (mH M)), (1, .int p), (2, .int o), (3, .int i), (4, .int n)] := hl
  refine lv_iload_n hx hb dX4_slice_0 rfl (lv_at hl 1 rfl) ?_
  refine ca_S (As := [.int p]) (rest := []) ⟨hx, hb, hml, hown, hts⟩ (cc_X4_isPlace l E A _ p) (va_cwS 1 hts gX4_slice_X4_isPlace rfl rfl rfl (by decide +kernel) ⟨(Nat.le_of_ble_eq_true rfl), (Nat.le_of_ble_eq_true rfl)⟩) hT hI hA hS rfl rfl hl.1 (Nat.le_of_ble_eq_true rfl) dX4_slice_1 ⟨(Nat.le_of_ble_eq_true rfl), (Nat.le_of_ble_eq_true rfl)⟩ (fun r w_2 H locs hp_1 hI hS => ?_)
  obtain ⟨rfl, ⟨ho_3, rfl⟩ | ⟨ho_3, rfl⟩⟩ := hp_1
  · refine W.eq (g2 := F0 m 4 ls [.int 1]) rfl ?_
    refine lv_if_eq (tgt := 14) hx hb dX4_slice_4 (by decide) (fun c => absurd c (by decide)) (fun _ => ?_)
    refine lv_iload_n hx hb dX4_slice_7 rfl (lv_at hl 2 rfl) ?_
    refine ca_S (As := [.int o]) (rest := []) ⟨hx, hb, hml, hown, hts⟩ (cc_X4_isPlace l E A _ o) (va_cwS 1 hts gX4_slice_X4_isPlace rfl rfl rfl (by decide +kernel) ⟨(Nat.le_of_ble_eq_true rfl), (Nat.le_of_ble_eq_true rfl)⟩) hT hI hA hS rfl rfl hl.1 (Nat.le_of_ble_eq_true rfl) dX4_slice_8 ⟨(Nat.le_of_ble_eq_true rfl), (Nat.le_of_ble_eq_true rfl)⟩ (fun r w_5 H locs hp_4 hI hS => ?_)
    obtain ⟨rfl, ⟨ho_6, rfl⟩ | ⟨ho_6, rfl⟩⟩ := hp_4
    · refine W.eq (g2 := F0 m 11 ls [.int 1]) rfl ?_
      refine lv_if_ne (tgt := 17) hx hb dX4_slice_11 (by decide) (fun _ => ?_) (fun c => absurd c (by decide))
      obtain ⟨pj, hpj, rfl⟩ := isP_nat ho_3
      obtain ⟨oj, hoj, rfl⟩ := isP_nat ho_6
      refine lv_aload_n hx hb dX4_slice_17 rfl (lv_at hl 0 rfl) ?_
      refine lv_iload_n hx hb dX4_slice_18 rfl (lv_at hl 2 rfl) ?_
      refine ca_V (As := [.int (nI oj)]) (rest := []) (r0 := (RX4, TX4, 11)) (ci := 3) ⟨hx, hb, hml, hown, hts⟩ (cc_X4_wantsRow l E A _ (by omega) hW hR) (cwV 1 hts gX4_slice_X4_wantsRow rfl rfl rfl (by decide +kernel) ⟨(Nat.le_of_ble_eq_true rfl), (Nat.le_of_ble_eq_true rfl)⟩) hT hI hA hS rfl hR.1 rfl rfl hl.1 (Nat.le_of_ble_eq_true rfl) dX4_slice_19 ⟨(Nat.le_of_ble_eq_true rfl), (Nat.le_of_ble_eq_true rfl)⟩ (fun r w_8 H locs hp_7 hI hS => ?_)
      obtain ⟨rfl, ⟨ez9, rfl⟩ | ⟨ez9, e69, rfl⟩ | ⟨ez9, hr9, rfl⟩⟩ := hp_7
      · refine W.eq (g2 := F0 m 22 ls [.int 1]) rfl ?_
        refine lv_istore (lv' := [(5, .int 1), (0, .ref (mH M)), (1, .int (nI pj)), (2, .int (nI oj)), (3, .int i), (4, .int n)]) hx hb dX4_slice_22 hl (by decide) rfl (fun ls hl => ?_)
        refine lv_iload hx hb dX4_slice_24 (lv_at hl 0 rfl) ?_
        refine lv_if_ne (tgt := 37) hx hb dX4_slice_26 (by decide) (fun _ => ?_) (fun c => absurd c (by decide))
        refine lv_iload hx hb dX4_slice_37 (lv_at hl 0 rfl) ?_
        refine lv_if_ne (tgt := 65) hx hb dX4_slice_39 (by decide) (fun _ => ?_) (fun c => absurd c (by decide))
        refine lv_iload hx hb dX4_slice_65 (lv_at hl 0 rfl) ?_
        refine lv_if_eq (tgt := 79) hx hb dX4_slice_67 (by decide) (fun c => absurd c (by decide)) (fun _ => ?_)
        refine lv_aload_n hx hb dX4_slice_70 rfl (lv_at hl 1 rfl) ?_
        refine lv_iload hx hb dX4_slice_71 (lv_at hl 0 rfl) ?_
        refine ca_V (As := [.int 1]) (rest := []) (r0 := (RX4, TX4, 11)) (ci := 3) ⟨hx, hb, hml, hown, hts⟩ (cc_X4_no l E A _ 1 hR) (cwV 1 hts gX4_slice_X4_no rfl rfl rfl (by decide +kernel) ⟨(Nat.le_of_ble_eq_true rfl), (Nat.le_of_ble_eq_true rfl)⟩) hT hI hA hS rfl hR.1 rfl rfl hl.1 (Nat.le_of_ble_eq_true rfl) dX4_slice_73 ⟨(Nat.le_of_ble_eq_true rfl), (Nat.le_of_ble_eq_true rfl)⟩ (fun r w_11 H locs hp_10 hI hS => ?_)
        obtain ⟨rfl, hR⟩ := hp_10
        refine W.eq (g2 := F0 m 76 ls [.int 0]) rfl ?_
        refine lv_goto (tgt := 88) hx hb dX4_slice_76 (by decide) ?_
        exact re_i hx hb hr hlocks hT hA hS hI (PoM.of (by
                    unfold sp_slice
                    try simp only [pv_nI hpj, pv_nI hoj]
                    rw [if_neg ((fun q => q.elim ho_3 ho_6)), if_pos (ez9)]
                    try rw [ix_nI (show pj < 2 ^ 31 by omega)]
                    try rfl) hR) (Nat.le_of_ble_eq_true rfl) (Nat.le_of_ble_eq_true rfl) dX4_slice_88
      · refine W.eq (g2 := F0 m 22 ls [.int 5]) rfl ?_
        refine lv_istore (lv' := [(5, .int 5), (0, .ref (mH M)), (1, .int (nI pj)), (2, .int (nI oj)), (3, .int i), (4, .int n)]) hx hb dX4_slice_22 hl (by decide) rfl (fun ls hl => ?_)
        refine lv_iload hx hb dX4_slice_24 (lv_at hl 0 rfl) ?_
        refine lv_if_ne (tgt := 37) hx hb dX4_slice_26 (by decide) (fun _ => ?_) (fun c => absurd c (by decide))
        refine lv_iload hx hb dX4_slice_37 (lv_at hl 0 rfl) ?_
        refine lv_if_ne (tgt := 65) hx hb dX4_slice_39 (by decide) (fun _ => ?_) (fun c => absurd c (by decide))
        refine lv_iload hx hb dX4_slice_65 (lv_at hl 0 rfl) ?_
        refine lv_if_eq (tgt := 79) hx hb dX4_slice_67 (by decide) (fun c => absurd c (by decide)) (fun _ => ?_)
        refine lv_aload_n hx hb dX4_slice_70 rfl (lv_at hl 1 rfl) ?_
        refine lv_iload hx hb dX4_slice_71 (lv_at hl 0 rfl) ?_
        refine ca_V (As := [.int 5]) (rest := []) (r0 := (RX4, TX4, 11)) (ci := 3) ⟨hx, hb, hml, hown, hts⟩ (cc_X4_no l E A _ 5 hR) (cwV 1 hts gX4_slice_X4_no rfl rfl rfl (by decide +kernel) ⟨(Nat.le_of_ble_eq_true rfl), (Nat.le_of_ble_eq_true rfl)⟩) hT hI hA hS rfl hR.1 rfl rfl hl.1 (Nat.le_of_ble_eq_true rfl) dX4_slice_73 ⟨(Nat.le_of_ble_eq_true rfl), (Nat.le_of_ble_eq_true rfl)⟩ (fun r w_13 H locs hp_12 hI hS => ?_)
        obtain ⟨rfl, hR⟩ := hp_12
        refine W.eq (g2 := F0 m 76 ls [.int 0]) rfl ?_
        refine lv_goto (tgt := 88) hx hb dX4_slice_76 (by decide) ?_
        exact re_i hx hb hr hlocks hT hA hS hI (PoM.of (by
                    unfold sp_slice
                    try simp only [pv_nI hpj, pv_nI hoj]
                    rw [if_neg ((fun q => q.elim ho_3 ho_6)), if_neg (ez9), if_pos (e69)]
                    try rw [ix_nI (show pj < 2 ^ 31 by omega)]
                    try rfl) hR) (Nat.le_of_ble_eq_true rfl) (Nat.le_of_ble_eq_true rfl) dX4_slice_88
      · have hln9 := hW.ln (Or.inl hr9)
        refine W.eq (g2 := F0 m 22 ls [.int 0]) rfl ?_
        refine lv_istore (lv' := [(5, .int 0), (0, .ref (mH M)), (1, .int (nI pj)), (2, .int (nI oj)), (3, .int i), (4, .int n)]) hx hb dX4_slice_22 hl (by decide) rfl (fun ls hl => ?_)
        refine lv_iload hx hb dX4_slice_24 (lv_at hl 0 rfl) ?_
        refine lv_if_ne (tgt := 37) hx hb dX4_slice_26 (by decide) (fun c => absurd c (by decide)) (fun _ => ?_)
        refine lv_iload hx hb dX4_slice_29 (lv_at hl 5 rfl) ?_
        refine lv_if_ge (tgt := 37) hx hb dX4_slice_31 (by decide) (fun c_14 => ?_) (fun c_14 => ?_)
        · refine lv_iload hx hb dX4_slice_37 (lv_at hl 0 rfl) ?_
          refine lv_if_ne (tgt := 65) hx hb dX4_slice_39 (by decide) (fun c => absurd c (by decide)) (fun _ => ?_)
          refine lv_iload_n hx hb dX4_slice_42 rfl (lv_at hl 4 rfl) ?_
          refine lv_if_lt (tgt := 62) hx hb dX4_slice_43 (by decide) (fun c_15 => ?_) (fun c_15 => ?_)
          · have hg9 : ¬ rg (lnv S (sPl S oj)) i n := fun q9 => rg_i q9 c_15
            refine lv_iconst (v := 3) hx hb dX4_slice_62 (by decide) ?_
            refine lv_istore (lv' := [(5, .int 3), (0, .ref (mH M)), (1, .int (nI pj)), (2, .int (nI oj)), (3, .int i), (4, .int n)]) hx hb dX4_slice_63 hl (by decide) rfl (fun ls hl => ?_)
            refine lv_iload hx hb dX4_slice_65 (lv_at hl 0 rfl) ?_
            refine lv_if_eq (tgt := 79) hx hb dX4_slice_67 (by decide) (fun c => absurd c (by decide)) (fun _ => ?_)
            refine lv_aload_n hx hb dX4_slice_70 rfl (lv_at hl 1 rfl) ?_
            refine lv_iload hx hb dX4_slice_71 (lv_at hl 0 rfl) ?_
            refine ca_V (As := [.int 3]) (rest := []) (r0 := (RX4, TX4, 11)) (ci := 3) ⟨hx, hb, hml, hown, hts⟩ (cc_X4_no l E A _ 3 hR) (cwV 1 hts gX4_slice_X4_no rfl rfl rfl (by decide +kernel) ⟨(Nat.le_of_ble_eq_true rfl), (Nat.le_of_ble_eq_true rfl)⟩) hT hI hA hS rfl hR.1 rfl rfl hl.1 (Nat.le_of_ble_eq_true rfl) dX4_slice_73 ⟨(Nat.le_of_ble_eq_true rfl), (Nat.le_of_ble_eq_true rfl)⟩ (fun r w_17 H locs hp_16 hI hS => ?_)
            obtain ⟨rfl, hR⟩ := hp_16
            refine W.eq (g2 := F0 m 76 ls [.int 0]) rfl ?_
            refine lv_goto (tgt := 88) hx hb dX4_slice_76 (by decide) ?_
            exact re_i hx hb hr hlocks hT hA hS hI (PoM.of (by
                            unfold sp_slice
                            try simp only [pv_nI hpj, pv_nI hoj]
                            rw [if_neg ((fun q => q.elim ho_3 ho_6)), if_neg (ez9), if_neg ((row_kd hW hr9)), if_neg ((not_not_intro c_14)), if_pos (hg9)]
                            try rw [ix_nI (show pj < 2 ^ 31 by omega)]
                            try rfl) hR) (Nat.le_of_ble_eq_true rfl) (Nat.le_of_ble_eq_true rfl) dX4_slice_88
          · refine lv_iload_n hx hb dX4_slice_46 rfl (lv_at hl 4 rfl) ?_
            refine lv_i2l (v := i.toInt64) hx hb dX4_slice_47 rfl ?_
            refine lv_iload hx hb dX4_slice_48 (lv_at hl 5 rfl) ?_
            refine lv_i2l (v := n.toInt64) hx hb dX4_slice_50 rfl ?_
            refine lv_ladd hx hb dX4_slice_51 ?_
            refine lv_aload_n hx hb dX4_slice_52 rfl (lv_at hl 1 rfl) ?_
            refine lv_iload_n hx hb dX4_slice_53 rfl (lv_at hl 3 rfl) ?_
            refine ca_V (As := [.int (nI oj)]) (rest := [.long (i.toInt64 + n.toInt64)]) (r0 := (RX4, TX4, 11)) (ci := 3) ⟨hx, hb, hml, hown, hts⟩ (cc_X4_lengthOf l E A _ (by omega) hW hR hr9) (cwV 1 hts gX4_slice_X4_lengthOf rfl rfl rfl (by decide +kernel) ⟨(Nat.le_of_ble_eq_true rfl), (Nat.le_of_ble_eq_true rfl)⟩) hT hI hA hS rfl hR.1 rfl rfl hl.1 (Nat.le_of_ble_eq_true rfl) dX4_slice_54 ⟨(Nat.le_of_ble_eq_true rfl), (Nat.le_of_ble_eq_true rfl)⟩ (fun r w_19 H locs hp_18 hI hS => ?_)
            obtain ⟨rfl, rfl⟩ := hp_18
            refine W.eq (g2 := F0 m 57 ls [.int (nI (lnv S (sPl S oj))), .long (i.toInt64 + n.toInt64)]) rfl ?_
            refine lv_i2l (v := (nI (lnv S (sPl S oj))).toInt64) hx hb dX4_slice_57 rfl ?_
            refine W.lcmp hx hb dX4_slice_58 ?_
            refine lv_if_le (tgt := 65) hx hb dX4_slice_59 (by decide) (fun c_20 => ?_) (fun c_20 => ?_)
            · refine lv_iload hx hb dX4_slice_65 (lv_at hl 0 rfl) ?_
              refine lv_if_eq (tgt := 79) hx hb dX4_slice_67 (by decide) (fun _ => ?_) (fun c => absurd c (by decide))
              have hg9 : rg (lnv S (sPl S oj)) i n := (rg64 (hW.ln (Or.inl hr9)) c_15 (Int32.not_lt.mpr c_14)).mp c_20
              obtain ⟨ia, nb, hin1, rfl, rfl⟩ := rg_nat (hW.ln (Or.inl hr9)) hg9
              refine lv_aload_n hx hb dX4_slice_79 rfl (lv_at hl 1 rfl) ?_
              refine lv_iload_n hx hb dX4_slice_80 rfl (lv_at hl 2 rfl) ?_
              refine lv_iload_n hx hb dX4_slice_81 rfl (lv_at hl 3 rfl) ?_
              refine lv_iload_n hx hb dX4_slice_82 rfl (lv_at hl 4 rfl) ?_
              refine lv_iload hx hb dX4_slice_83 (lv_at hl 5 rfl) ?_
              refine ca_V (As := [.int (nI pj), .int (nI oj), .int (nI ia), .int (nI nb)]) (rest := []) (r0 := (RX4, TX4, 11)) (ci := 3) ⟨hx, hb, hml, hown, hts⟩ (cc_X4_sliced l E A _ (pj := pj) (oj := oj) (i := ia) (n := nb) (by omega) (by omega) hr9 (by omega) hb9.1 hW hR) (cwV 4 hts gX4_slice_X4_sliced rfl rfl rfl (by decide +kernel) ⟨(Nat.le_of_ble_eq_true rfl), (Nat.le_of_ble_eq_true rfl)⟩) hT hI hA hS rfl hR.1 rfl rfl hl.1 (Nat.le_of_ble_eq_true rfl) dX4_slice_85 ⟨(Nat.le_of_ble_eq_true rfl), (Nat.le_of_ble_eq_true rfl)⟩ (fun r w_22 H locs hp_21 hI hS => ?_)
              obtain ⟨rfl, hR⟩ := hp_21
              refine W.eq (g2 := F0 m 88 ls [.int (nI nb)]) rfl ?_
              exact re_i hx hb hr hlocks hT hA hS hI (PoM.of (by
                                unfold sp_slice
                                try simp only [pv_nI hpj, pv_nI hoj, ix_nI (show ia < 2 ^ 31 by omega), ix_nI (show nb < 2 ^ 31 by omega)]
                                rw [if_neg ((fun q => q.elim ho_3 ho_6)), if_neg (ez9), if_neg ((row_kd hW hr9)), if_neg ((not_not_intro c_14)), if_neg (not_not_intro hg9)]
                                try rw [ix_nI (show pj < 2 ^ 31 by omega)]
                                try rfl) hR) (Nat.le_of_ble_eq_true rfl) (Nat.le_of_ble_eq_true rfl) dX4_slice_88
            · have hg9 : ¬ rg (lnv S (sPl S oj)) i n := fun q9 => c_20 ((rg64 (hW.ln (Or.inl hr9)) c_15 (Int32.not_lt.mpr c_14)).mpr q9)
              refine lv_iconst (v := 3) hx hb dX4_slice_62 (by decide) ?_
              refine lv_istore (lv' := [(5, .int 3), (0, .ref (mH M)), (1, .int (nI pj)), (2, .int (nI oj)), (3, .int i), (4, .int n)]) hx hb dX4_slice_63 hl (by decide) rfl (fun ls hl => ?_)
              refine lv_iload hx hb dX4_slice_65 (lv_at hl 0 rfl) ?_
              refine lv_if_eq (tgt := 79) hx hb dX4_slice_67 (by decide) (fun c => absurd c (by decide)) (fun _ => ?_)
              refine lv_aload_n hx hb dX4_slice_70 rfl (lv_at hl 1 rfl) ?_
              refine lv_iload hx hb dX4_slice_71 (lv_at hl 0 rfl) ?_
              refine ca_V (As := [.int 3]) (rest := []) (r0 := (RX4, TX4, 11)) (ci := 3) ⟨hx, hb, hml, hown, hts⟩ (cc_X4_no l E A _ 3 hR) (cwV 1 hts gX4_slice_X4_no rfl rfl rfl (by decide +kernel) ⟨(Nat.le_of_ble_eq_true rfl), (Nat.le_of_ble_eq_true rfl)⟩) hT hI hA hS rfl hR.1 rfl rfl hl.1 (Nat.le_of_ble_eq_true rfl) dX4_slice_73 ⟨(Nat.le_of_ble_eq_true rfl), (Nat.le_of_ble_eq_true rfl)⟩ (fun r w_24 H locs hp_23 hI hS => ?_)
              obtain ⟨rfl, hR⟩ := hp_23
              refine W.eq (g2 := F0 m 76 ls [.int 0]) rfl ?_
              refine lv_goto (tgt := 88) hx hb dX4_slice_76 (by decide) ?_
              exact re_i hx hb hr hlocks hT hA hS hI (PoM.of (by
                                unfold sp_slice
                                try simp only [pv_nI hpj, pv_nI hoj]
                                rw [if_neg ((fun q => q.elim ho_3 ho_6)), if_neg (ez9), if_neg ((row_kd hW hr9)), if_neg ((not_not_intro c_14)), if_pos (hg9)]
                                try rw [ix_nI (show pj < 2 ^ 31 by omega)]
                                try rfl) hR) (Nat.le_of_ble_eq_true rfl) (Nat.le_of_ble_eq_true rfl) dX4_slice_88
        · refine lv_iconst (v := 4) hx hb dX4_slice_34 (by decide) ?_
          refine lv_istore (lv' := [(5, .int 4), (0, .ref (mH M)), (1, .int (nI pj)), (2, .int (nI oj)), (3, .int i), (4, .int n)]) hx hb dX4_slice_35 hl (by decide) rfl (fun ls hl => ?_)
          refine lv_iload hx hb dX4_slice_37 (lv_at hl 0 rfl) ?_
          refine lv_if_ne (tgt := 65) hx hb dX4_slice_39 (by decide) (fun _ => ?_) (fun c => absurd c (by decide))
          refine lv_iload hx hb dX4_slice_65 (lv_at hl 0 rfl) ?_
          refine lv_if_eq (tgt := 79) hx hb dX4_slice_67 (by decide) (fun c => absurd c (by decide)) (fun _ => ?_)
          refine lv_aload_n hx hb dX4_slice_70 rfl (lv_at hl 1 rfl) ?_
          refine lv_iload hx hb dX4_slice_71 (lv_at hl 0 rfl) ?_
          refine ca_V (As := [.int 4]) (rest := []) (r0 := (RX4, TX4, 11)) (ci := 3) ⟨hx, hb, hml, hown, hts⟩ (cc_X4_no l E A _ 4 hR) (cwV 1 hts gX4_slice_X4_no rfl rfl rfl (by decide +kernel) ⟨(Nat.le_of_ble_eq_true rfl), (Nat.le_of_ble_eq_true rfl)⟩) hT hI hA hS rfl hR.1 rfl rfl hl.1 (Nat.le_of_ble_eq_true rfl) dX4_slice_73 ⟨(Nat.le_of_ble_eq_true rfl), (Nat.le_of_ble_eq_true rfl)⟩ (fun r w_26 H locs hp_25 hI hS => ?_)
          obtain ⟨rfl, hR⟩ := hp_25
          refine W.eq (g2 := F0 m 76 ls [.int 0]) rfl ?_
          refine lv_goto (tgt := 88) hx hb dX4_slice_76 (by decide) ?_
          exact re_i hx hb hr hlocks hT hA hS hI (PoM.of (by
                        unfold sp_slice
                        try simp only [pv_nI hpj, pv_nI hoj]
                        rw [if_neg ((fun q => q.elim ho_3 ho_6)), if_neg (ez9), if_neg ((row_kd hW hr9)), if_pos (c_14)]
                        try rw [ix_nI (show pj < 2 ^ 31 by omega)]
                        try rfl) hR) (Nat.le_of_ble_eq_true rfl) (Nat.le_of_ble_eq_true rfl) dX4_slice_88
    · have ho_6 : oP o := Classical.not_not.mp ho_6
      refine W.eq (g2 := F0 m 11 ls [.int 0]) rfl ?_
      refine lv_if_ne (tgt := 17) hx hb dX4_slice_11 (by decide) (fun c => absurd c (by decide)) (fun _ => ?_)
      refine lv_ldc (v := -2000000001) hx hb hown (hts (.constant RX4 54 (-2000000001)) (by decide +kernel)) dX4_slice_14 ?_
      exact re_i hx hb hr hlocks hT hA hS hI (PoM.of (by
                unfold sp_slice
                rw [if_pos (Or.inr (ho_6))]) hR) (Nat.le_of_ble_eq_true rfl) (Nat.le_of_ble_eq_true rfl) dX4_slice_16
  · have ho_3 : oP p := Classical.not_not.mp ho_3
    refine W.eq (g2 := F0 m 4 ls [.int 0]) rfl ?_
    refine lv_if_eq (tgt := 14) hx hb dX4_slice_4 (by decide) (fun _ => ?_) (fun c => absurd c (by decide))
    refine lv_ldc (v := -2000000001) hx hb hown (hts (.constant RX4 54 (-2000000001)) (by decide +kernel)) dX4_slice_14 ?_
    exact re_i hx hb hr hlocks hT hA hS hI (PoM.of (by
            unfold sp_slice
            rw [if_pos (Or.inl ho_3)]) hR) (Nat.le_of_ble_eq_true rfl) (Nat.le_of_ble_eq_true rfl) dX4_slice_16

set_option maxHeartbeats 4000000 in
set_option maxRecDepth 100000 in
theorem cc_X4_mean (l : Launch) (E : En) (A : Nat → Prop) (w : Wd) {S : Sx} {M : Md} {tt : Nat → Int32} (p : Int32) (hW : Wf S) (hR : Rm E S M tt w) (hb9 : sNr S < 512 ∧ sNt S < 512 ∧ sNl S < 512) : Ct l yX4_mean wsX4_mean ({ frames := 2, cells := 0, slots := 0, locals := 45 } : Room) E A w [.ref (mH M), .int p] (fun r w' => PoM E M (sp_mean S p) r w') 0 0 := by
  refine Met.ofW (cc := cX4_mean) (maxL := 3) (ret := (some .int)) (by decide) rfl ?_
  intro pp0 ee0 s m args below meth cc0 s₁ B hml hv
  obtain ⟨rfl, hT, hI, hA⟩ := hv
  have hx := B.exec
  have hb := B.bytes
  have hr := B.returns
  have hts := atoms_spec (ws := wsX4_mean) B.pre
  have hown : s.vm.findClass RX4 = some m.cls := findClass_of_methodNamed B.named
  have hlocks := B.notSynchronized
  have in_X4 : ∀ w ∈ wsX40, w ∈ wsX4_mean := by decide +kernel
  have hS : va_S A s.heap s.heap [] := va_S.rf
  have hl := lv_entry ([.ref (mH M), .int p]) (n := 3) (Nat.le_of_ble_eq_true rfl)
  rw [lg_entry_eq]
  generalize (lg_sl ([.ref (mH M), .int p]) ++ List.replicate (3 - (lg_sl ([.ref (mH M), .int p])).length) Slot.unset).toArray = ls at hl ⊢
  have hl : lv_has ls 3 [(0, .ref (mH M)), (1, .int p)] := hl
  refine lv_iload_n hx hb dX4_mean_0 rfl (lv_at hl 1 rfl) ?_
  refine ca_S (As := [.int p]) (rest := []) ⟨hx, hb, hml, hown, hts⟩ (cc_X4_isPlace l E A _ p) (va_cwS 1 hts gX4_mean_X4_isPlace rfl rfl rfl (by decide +kernel) ⟨(Nat.le_of_ble_eq_true rfl), (Nat.le_of_ble_eq_true rfl)⟩) hT hI hA hS rfl rfl hl.1 (Nat.le_of_ble_eq_true rfl) dX4_mean_1 ⟨(Nat.le_of_ble_eq_true rfl), (Nat.le_of_ble_eq_true rfl)⟩ (fun r w_2 H locs hp_1 hI hS => ?_)
  obtain ⟨rfl, ⟨ho_3, rfl⟩ | ⟨ho_3, rfl⟩⟩ := hp_1
  · refine W.eq (g2 := F0 m 4 ls [.int 1]) rfl ?_
    refine lv_if_ne (tgt := 10) hx hb dX4_mean_4 (by decide) (fun _ => ?_) (fun c => absurd c (by decide))
    obtain ⟨pj, hpj, rfl⟩ := isP_nat ho_3
    refine lv_aload_n hx hb dX4_mean_10 rfl (lv_at hl 0 rfl) ?_
    refine lv_iload_n hx hb dX4_mean_11 rfl (lv_at hl 1 rfl) ?_
    refine ca_V (As := [.int (nI pj)]) (rest := []) (r0 := (RX4, TX4, 11)) (ci := 3) ⟨hx, hb, hml, hown, hts⟩ (cc_X4_wantsRow l E A _ (by omega) hW hR) (cwV 1 hts gX4_mean_X4_wantsRow rfl rfl rfl (by decide +kernel) ⟨(Nat.le_of_ble_eq_true rfl), (Nat.le_of_ble_eq_true rfl)⟩) hT hI hA hS rfl hR.1 rfl rfl hl.1 (Nat.le_of_ble_eq_true rfl) dX4_mean_12 ⟨(Nat.le_of_ble_eq_true rfl), (Nat.le_of_ble_eq_true rfl)⟩ (fun r w_5 H locs hp_4 hI hS => ?_)
    obtain ⟨rfl, ⟨ez6, rfl⟩ | ⟨ez6, e66, rfl⟩ | ⟨ez6, hr6, rfl⟩⟩ := hp_4
    · refine W.eq (g2 := F0 m 15 ls [.int 1]) rfl ?_
      refine lv_istore_n (lv' := [(2, .int 1), (0, .ref (mH M)), (1, .int (nI pj))]) hx hb dX4_mean_15 rfl hl (by decide) rfl (fun ls hl => ?_)
      refine lv_iload_n hx hb dX4_mean_16 rfl (lv_at hl 0 rfl) ?_
      refine lv_if_ne (tgt := 31) hx hb dX4_mean_17 (by decide) (fun _ => ?_) (fun c => absurd c (by decide))
      refine lv_iload_n hx hb dX4_mean_31 rfl (lv_at hl 0 rfl) ?_
      refine lv_if_ne (tgt := 46) hx hb dX4_mean_32 (by decide) (fun _ => ?_) (fun c => absurd c (by decide))
      refine lv_iload_n hx hb dX4_mean_46 rfl (lv_at hl 0 rfl) ?_
      refine lv_if_eq (tgt := 58) hx hb dX4_mean_47 (by decide) (fun c => absurd c (by decide)) (fun _ => ?_)
      refine lv_aload_n hx hb dX4_mean_50 rfl (lv_at hl 1 rfl) ?_
      refine lv_iload_n hx hb dX4_mean_51 rfl (lv_at hl 0 rfl) ?_
      refine ca_V (As := [.int 1]) (rest := []) (r0 := (RX4, TX4, 11)) (ci := 3) ⟨hx, hb, hml, hown, hts⟩ (cc_X4_no l E A _ 1 hR) (cwV 1 hts gX4_mean_X4_no rfl rfl rfl (by decide +kernel) ⟨(Nat.le_of_ble_eq_true rfl), (Nat.le_of_ble_eq_true rfl)⟩) hT hI hA hS rfl hR.1 rfl rfl hl.1 (Nat.le_of_ble_eq_true rfl) dX4_mean_52 ⟨(Nat.le_of_ble_eq_true rfl), (Nat.le_of_ble_eq_true rfl)⟩ (fun r w_8 H locs hp_7 hI hS => ?_)
      obtain ⟨rfl, hR⟩ := hp_7
      refine W.eq (g2 := F0 m 55 ls [.int 0]) rfl ?_
      refine lv_goto (tgt := 78) hx hb dX4_mean_55 (by decide) ?_
      exact re_i hx hb hr hlocks hT hA hS hI (PoM.of (by
                unfold sp_mean
                try simp only [pv_nI hpj]
                rw [if_neg (ho_3), if_pos (ez6)]
                try rfl) hR) (Nat.le_of_ble_eq_true rfl) (Nat.le_of_ble_eq_true rfl) dX4_mean_78
    · refine W.eq (g2 := F0 m 15 ls [.int 5]) rfl ?_
      refine lv_istore_n (lv' := [(2, .int 5), (0, .ref (mH M)), (1, .int (nI pj))]) hx hb dX4_mean_15 rfl hl (by decide) rfl (fun ls hl => ?_)
      refine lv_iload_n hx hb dX4_mean_16 rfl (lv_at hl 0 rfl) ?_
      refine lv_if_ne (tgt := 31) hx hb dX4_mean_17 (by decide) (fun _ => ?_) (fun c => absurd c (by decide))
      refine lv_iload_n hx hb dX4_mean_31 rfl (lv_at hl 0 rfl) ?_
      refine lv_if_ne (tgt := 46) hx hb dX4_mean_32 (by decide) (fun _ => ?_) (fun c => absurd c (by decide))
      refine lv_iload_n hx hb dX4_mean_46 rfl (lv_at hl 0 rfl) ?_
      refine lv_if_eq (tgt := 58) hx hb dX4_mean_47 (by decide) (fun c => absurd c (by decide)) (fun _ => ?_)
      refine lv_aload_n hx hb dX4_mean_50 rfl (lv_at hl 1 rfl) ?_
      refine lv_iload_n hx hb dX4_mean_51 rfl (lv_at hl 0 rfl) ?_
      refine ca_V (As := [.int 5]) (rest := []) (r0 := (RX4, TX4, 11)) (ci := 3) ⟨hx, hb, hml, hown, hts⟩ (cc_X4_no l E A _ 5 hR) (cwV 1 hts gX4_mean_X4_no rfl rfl rfl (by decide +kernel) ⟨(Nat.le_of_ble_eq_true rfl), (Nat.le_of_ble_eq_true rfl)⟩) hT hI hA hS rfl hR.1 rfl rfl hl.1 (Nat.le_of_ble_eq_true rfl) dX4_mean_52 ⟨(Nat.le_of_ble_eq_true rfl), (Nat.le_of_ble_eq_true rfl)⟩ (fun r w_10 H locs hp_9 hI hS => ?_)
      obtain ⟨rfl, hR⟩ := hp_9
      refine W.eq (g2 := F0 m 55 ls [.int 0]) rfl ?_
      refine lv_goto (tgt := 78) hx hb dX4_mean_55 (by decide) ?_
      exact re_i hx hb hr hlocks hT hA hS hI (PoM.of (by
                unfold sp_mean
                try simp only [pv_nI hpj]
                rw [if_neg (ho_3), if_neg (ez6), if_pos (by rw [e66]; decide)]
                try rfl) hR) (Nat.le_of_ble_eq_true rfl) (Nat.le_of_ble_eq_true rfl) dX4_mean_78
    · have hln6 := hW.ln (Or.inl hr6)
      refine W.eq (g2 := F0 m 15 ls [.int 0]) rfl ?_
      refine lv_istore_n (lv' := [(2, .int 0), (0, .ref (mH M)), (1, .int (nI pj))]) hx hb dX4_mean_15 rfl hl (by decide) rfl (fun ls hl => ?_)
      refine lv_iload_n hx hb dX4_mean_16 rfl (lv_at hl 0 rfl) ?_
      refine lv_if_ne (tgt := 31) hx hb dX4_mean_17 (by decide) (fun c => absurd c (by decide)) (fun _ => ?_)
      refine lv_aload_n hx hb dX4_mean_20 rfl (lv_at hl 1 rfl) ?_
      refine lv_iload_n hx hb dX4_mean_21 rfl (lv_at hl 2 rfl) ?_
      refine ca_V (As := [.int (nI pj)]) (rest := []) (r0 := (RX4, TX4, 11)) (ci := 3) ⟨hx, hb, hml, hown, hts⟩ (cc_X4_kindOf l E A _ (by omega) hW hR) (cwV 1 hts gX4_mean_X4_kindOf rfl rfl rfl (by decide +kernel) ⟨(Nat.le_of_ble_eq_true rfl), (Nat.le_of_ble_eq_true rfl)⟩) hT hI hA hS rfl hR.1 rfl rfl hl.1 (Nat.le_of_ble_eq_true rfl) dX4_mean_22 ⟨(Nat.le_of_ble_eq_true rfl), (Nat.le_of_ble_eq_true rfl)⟩ (fun r w_12 H locs hp_11 hI hS => ?_)
      obtain ⟨rfl, rfl⟩ := hp_11
      rw [kp_ne ez6]
      refine W.eq (g2 := F0 m 25 ls [.int (kdv S (sPl S pj))]) rfl ?_
      refine lv_iconst (v := 2) hx hb dX4_mean_25 (by decide) ?_
      refine lv_icmp_lt (tgt := 31) hx hb dX4_mean_26 (by decide) (fun c_13 => ?_) (fun c_13 => ?_)
      · refine lv_iload_n hx hb dX4_mean_31 rfl (lv_at hl 0 rfl) ?_
        refine lv_if_ne (tgt := 46) hx hb dX4_mean_32 (by decide) (fun c => absurd c (by decide)) (fun _ => ?_)
        refine lv_aload_n hx hb dX4_mean_35 rfl (lv_at hl 1 rfl) ?_
        refine lv_iload_n hx hb dX4_mean_36 rfl (lv_at hl 2 rfl) ?_
        refine ca_V (As := [.int (nI pj)]) (rest := []) (r0 := (RX4, TX4, 11)) (ci := 3) ⟨hx, hb, hml, hown, hts⟩ (cc_X4_lengthOf l E A _ (by omega) hW hR hr6) (cwV 1 hts gX4_mean_X4_lengthOf rfl rfl rfl (by decide +kernel) ⟨(Nat.le_of_ble_eq_true rfl), (Nat.le_of_ble_eq_true rfl)⟩) hT hI hA hS rfl hR.1 rfl rfl hl.1 (Nat.le_of_ble_eq_true rfl) dX4_mean_37 ⟨(Nat.le_of_ble_eq_true rfl), (Nat.le_of_ble_eq_true rfl)⟩ (fun r w_15 H locs hp_14 hI hS => ?_)
        obtain ⟨rfl, rfl⟩ := hp_14
        refine W.eq (g2 := F0 m 40 ls [.int (nI (lnv S (sPl S pj)))]) rfl ?_
        refine lv_if_ne (tgt := 46) hx hb dX4_mean_40 (by decide) (fun c_16 => ?_) (fun c_16 => ?_)
        · have c_16 : ¬ lnv S (sPl S pj) = 0 := fun q => c_16 ((nI_eq (a := lnv S (sPl S pj)) (b := 0) (by omega) (by omega)).mpr q)
          refine lv_iload_n hx hb dX4_mean_46 rfl (lv_at hl 0 rfl) ?_
          refine lv_if_eq (tgt := 58) hx hb dX4_mean_47 (by decide) (fun _ => ?_) (fun c => absurd c (by decide))
          refine lv_aload_n hx hb dX4_mean_58 rfl (lv_at hl 1 rfl) ?_
          refine lv_aload_n hx hb dX4_mean_59 rfl (lv_at hl 1 rfl) ?_
          refine lv_aload_n hx hb dX4_mean_60 rfl (lv_at hl 1 rfl) ?_
          refine wr_get (ci := 3) (C := RX4) (T := TX4) (N := 11) (v := .ref (mP M)) hx hb hts in_X4 hown hT hI hR.1 rfl 1 (by decide) (hts (.fieldLink RX4 7 "CopyRowsModel" "places" "[I") (by decide +kernel)) rfl dX4_mean_61 ?_
          refine lv_iload_n hx hb dX4_mean_64 rfl (lv_at hl 2 rfl) ?_
          refine wr_ialdN (t := pj) (n := 12) (f := plF S) hx hb hT hI hR.2.1 (by omega) (by omega) dX4_mean_65 ?_
          refine W.eq (g2 := F0 m 66 ls [.int (sPl S pj), .ref (mH M), .ref (mH M)]) (by rw [plF_at (by omega)]) ?_
          refine ca_V (As := [.int (sPl S pj)]) (rest := [.ref (mH M)]) (r0 := (RX4, TX4, 11)) (ci := 3) ⟨hx, hb, hml, hown, hts⟩ (cM_sumOf l E A _ hr6 hW hR) (cwV 1 hts gX4_mean_X4_sumOf rfl rfl rfl (by decide +kernel) ⟨(Nat.le_of_ble_eq_true rfl), (Nat.le_of_ble_eq_true rfl)⟩) hT hI hA hS rfl hR.1 rfl rfl hl.1 (Nat.le_of_ble_eq_true rfl) dX4_mean_66 ⟨(Nat.le_of_ble_eq_true rfl), (Nat.le_of_ble_eq_true rfl)⟩ (fun r w_18 H locs hp_17 hI hS => ?_)
          obtain ⟨rfl, rfl⟩ := hp_17
          refine W.eq (g2 := F0 m 69 ls [.int (sumF (itv S (sPl S pj)) (lnv S (sPl S pj))), .ref (mH M)]) rfl ?_
          refine lv_aload_n hx hb dX4_mean_69 rfl (lv_at hl 1 rfl) ?_
          refine lv_iload_n hx hb dX4_mean_70 rfl (lv_at hl 2 rfl) ?_
          refine ca_V (As := [.int (nI pj)]) (rest := [.int (sumF (itv S (sPl S pj)) (lnv S (sPl S pj))), .ref (mH M)]) (r0 := (RX4, TX4, 11)) (ci := 3) ⟨hx, hb, hml, hown, hts⟩ (cc_X4_lengthOf l E A _ (by omega) hW hR hr6) (cwV 1 hts gX4_mean_X4_lengthOf rfl rfl rfl (by decide +kernel) ⟨(Nat.le_of_ble_eq_true rfl), (Nat.le_of_ble_eq_true rfl)⟩) hT hI hA hS rfl hR.1 rfl rfl hl.1 (Nat.le_of_ble_eq_true rfl) dX4_mean_71 ⟨(Nat.le_of_ble_eq_true rfl), (Nat.le_of_ble_eq_true rfl)⟩ (fun r w_20 H locs hp_19 hI hS => ?_)
          obtain ⟨rfl, rfl⟩ := hp_19
          refine W.eq (g2 := F0 m 74 ls [.int (nI (lnv S (sPl S pj))), .int (sumF (itv S (sPl S pj)) (lnv S (sPl S pj))), .ref (mH M)]) rfl ?_
          refine lv_idiv hx hb dX4_mean_74 (fun q9 => c_16 ((nI_eq (a := lnv S (sPl S pj)) (b := 0) (by omega) (by omega)).mp q9)) ?_
          refine ca_V (As := [.int ((sumF (itv S (sPl S pj)) (lnv S (sPl S pj))) / (nI (lnv S (sPl S pj))))]) (rest := []) (r0 := (RX4, TX4, 11)) (ci := 3) ⟨hx, hb, hml, hown, hts⟩ (cc_X4_yes l E A _ ((sumF (itv S (sPl S pj)) (lnv S (sPl S pj))) / (nI (lnv S (sPl S pj)))) hR) (cwV 1 hts gX4_mean_X4_yes rfl rfl rfl (by decide +kernel) ⟨(Nat.le_of_ble_eq_true rfl), (Nat.le_of_ble_eq_true rfl)⟩) hT hI hA hS rfl hR.1 rfl rfl hl.1 (Nat.le_of_ble_eq_true rfl) dX4_mean_75 ⟨(Nat.le_of_ble_eq_true rfl), (Nat.le_of_ble_eq_true rfl)⟩ (fun r w_22 H locs hp_21 hI hS => ?_)
          obtain ⟨rfl, hR⟩ := hp_21
          refine W.eq (g2 := F0 m 78 ls [.int ((sumF (itv S (sPl S pj)) (lnv S (sPl S pj))) / (nI (lnv S (sPl S pj))))]) rfl ?_
          exact re_i hx hb hr hlocks hT hA hS hI (PoM.of (by
                        unfold sp_mean
                        try simp only [pv_nI hpj]
                        rw [if_neg (ho_3), if_neg (ez6), if_neg (not_not_intro ((lt2 (hW.kd (Or.inl hr6))).mp c_13)), if_neg (c_16)]
                        try rfl) hR) (Nat.le_of_ble_eq_true rfl) (Nat.le_of_ble_eq_true rfl) dX4_mean_78
        · have c_16 : lnv S (sPl S pj) = 0 := (nI_eq (a := lnv S (sPl S pj)) (b := 0) (by omega) (by omega)).mp c_16
          refine lv_bipush (v := 6) hx hb dX4_mean_43 (by decide) ?_
          refine lv_istore_n (lv' := [(2, .int 6), (0, .ref (mH M)), (1, .int (nI pj))]) hx hb dX4_mean_45 rfl hl (by decide) rfl (fun ls hl => ?_)
          refine lv_iload_n hx hb dX4_mean_46 rfl (lv_at hl 0 rfl) ?_
          refine lv_if_eq (tgt := 58) hx hb dX4_mean_47 (by decide) (fun c => absurd c (by decide)) (fun _ => ?_)
          refine lv_aload_n hx hb dX4_mean_50 rfl (lv_at hl 1 rfl) ?_
          refine lv_iload_n hx hb dX4_mean_51 rfl (lv_at hl 0 rfl) ?_
          refine ca_V (As := [.int 6]) (rest := []) (r0 := (RX4, TX4, 11)) (ci := 3) ⟨hx, hb, hml, hown, hts⟩ (cc_X4_no l E A _ 6 hR) (cwV 1 hts gX4_mean_X4_no rfl rfl rfl (by decide +kernel) ⟨(Nat.le_of_ble_eq_true rfl), (Nat.le_of_ble_eq_true rfl)⟩) hT hI hA hS rfl hR.1 rfl rfl hl.1 (Nat.le_of_ble_eq_true rfl) dX4_mean_52 ⟨(Nat.le_of_ble_eq_true rfl), (Nat.le_of_ble_eq_true rfl)⟩ (fun r w_24 H locs hp_23 hI hS => ?_)
          obtain ⟨rfl, hR⟩ := hp_23
          refine W.eq (g2 := F0 m 55 ls [.int 0]) rfl ?_
          refine lv_goto (tgt := 78) hx hb dX4_mean_55 (by decide) ?_
          exact re_i hx hb hr hlocks hT hA hS hI (PoM.of (by
                        unfold sp_mean
                        try simp only [pv_nI hpj]
                        rw [if_neg (ho_3), if_neg (ez6), if_neg (not_not_intro ((lt2 (hW.kd (Or.inl hr6))).mp c_13)), if_pos (c_16)]
                        try rfl) hR) (Nat.le_of_ble_eq_true rfl) (Nat.le_of_ble_eq_true rfl) dX4_mean_78
      · refine lv_iconst (v := 5) hx hb dX4_mean_29 (by decide) ?_
        refine lv_istore_n (lv' := [(2, .int 5), (0, .ref (mH M)), (1, .int (nI pj))]) hx hb dX4_mean_30 rfl hl (by decide) rfl (fun ls hl => ?_)
        refine lv_iload_n hx hb dX4_mean_31 rfl (lv_at hl 0 rfl) ?_
        refine lv_if_ne (tgt := 46) hx hb dX4_mean_32 (by decide) (fun _ => ?_) (fun c => absurd c (by decide))
        refine lv_iload_n hx hb dX4_mean_46 rfl (lv_at hl 0 rfl) ?_
        refine lv_if_eq (tgt := 58) hx hb dX4_mean_47 (by decide) (fun c => absurd c (by decide)) (fun _ => ?_)
        refine lv_aload_n hx hb dX4_mean_50 rfl (lv_at hl 1 rfl) ?_
        refine lv_iload_n hx hb dX4_mean_51 rfl (lv_at hl 0 rfl) ?_
        refine ca_V (As := [.int 5]) (rest := []) (r0 := (RX4, TX4, 11)) (ci := 3) ⟨hx, hb, hml, hown, hts⟩ (cc_X4_no l E A _ 5 hR) (cwV 1 hts gX4_mean_X4_no rfl rfl rfl (by decide +kernel) ⟨(Nat.le_of_ble_eq_true rfl), (Nat.le_of_ble_eq_true rfl)⟩) hT hI hA hS rfl hR.1 rfl rfl hl.1 (Nat.le_of_ble_eq_true rfl) dX4_mean_52 ⟨(Nat.le_of_ble_eq_true rfl), (Nat.le_of_ble_eq_true rfl)⟩ (fun r w_26 H locs hp_25 hI hS => ?_)
        obtain ⟨rfl, hR⟩ := hp_25
        refine W.eq (g2 := F0 m 55 ls [.int 0]) rfl ?_
        refine lv_goto (tgt := 78) hx hb dX4_mean_55 (by decide) ?_
        exact re_i hx hb hr hlocks hT hA hS hI (PoM.of (by
                    unfold sp_mean
                    try simp only [pv_nI hpj]
                    rw [if_neg (ho_3), if_neg (ez6), if_pos (fun q9 => c_13 ((lt2 (hW.kd (Or.inl hr6))).mpr q9))]
                    try rfl) hR) (Nat.le_of_ble_eq_true rfl) (Nat.le_of_ble_eq_true rfl) dX4_mean_78
  · have ho_3 : oP p := Classical.not_not.mp ho_3
    refine W.eq (g2 := F0 m 4 ls [.int 0]) rfl ?_
    refine lv_if_ne (tgt := 10) hx hb dX4_mean_4 (by decide) (fun c => absurd c (by decide)) (fun _ => ?_)
    refine lv_ldc (v := -2000000001) hx hb hown (hts (.constant RX4 54 (-2000000001)) (by decide +kernel)) dX4_mean_7 ?_
    exact re_i hx hb hr hlocks hT hA hS hI (PoM.of (by
            unfold sp_mean
            rw [if_pos (ho_3)]
            try rfl) hR) (Nat.le_of_ble_eq_true rfl) (Nat.le_of_ble_eq_true rfl) dX4_mean_9

set_option maxHeartbeats 4000000 in
set_option maxRecDepth 100000 in
theorem cc_X4_same (l : Launch) (E : En) (A : Nat → Prop) (w : Wd) {S : Sx} {M : Md} {tt : Nat → Int32} (a b : Int32) (hW : Wf S) (hR : Rm E S M tt w) (hb9 : sNr S < 512 ∧ sNt S < 512 ∧ sNl S < 512) : Ct l yX4_same wsX4_same ({ frames := 2, cells := 0, slots := 0, locals := 45 } : Room) E A w [.ref (mH M), .int a, .int b] (fun r w' => PoM E M (sp_same S a b) r w') 0 0 := by
  refine Met.ofW (cc := cX4_same) (maxL := 3) (ret := (some .int)) (by decide) rfl ?_
  intro pp0 ee0 s m args below meth cc0 s₁ B hml hv
  obtain ⟨rfl, hT, hI, hA⟩ := hv
  have hx := B.exec
  have hb := B.bytes
  have hr := B.returns
  have hts := atoms_spec (ws := wsX4_same) B.pre
  have hown : s.vm.findClass RX4 = some m.cls := findClass_of_methodNamed B.named
  have hlocks := B.notSynchronized
  have in_X4 : ∀ w ∈ wsX40, w ∈ wsX4_same := by decide +kernel
  have hS : va_S A s.heap s.heap [] := va_S.rf
  have hl := lv_entry ([.ref (mH M), .int a, .int b]) (n := 3) (Nat.le_of_ble_eq_true rfl)
  rw [lg_entry_eq]
  generalize (lg_sl ([.ref (mH M), .int a, .int b]) ++ List.replicate (3 - (lg_sl ([.ref (mH M), .int a, .int b])).length) Slot.unset).toArray = ls at hl ⊢
  have hl : lv_has ls 3 [(0, .ref (mH M)), (1, .int a), (2, .int b)] := hl
  refine lv_iload_n hx hb dX4_same_0 rfl (lv_at hl 1 rfl) ?_
  refine ca_S (As := [.int a]) (rest := []) ⟨hx, hb, hml, hown, hts⟩ (cc_X4_isPlace l E A _ a) (va_cwS 1 hts gX4_same_X4_isPlace rfl rfl rfl (by decide +kernel) ⟨(Nat.le_of_ble_eq_true rfl), (Nat.le_of_ble_eq_true rfl)⟩) hT hI hA hS rfl rfl hl.1 (Nat.le_of_ble_eq_true rfl) dX4_same_1 ⟨(Nat.le_of_ble_eq_true rfl), (Nat.le_of_ble_eq_true rfl)⟩ (fun r w_2 H locs hp_1 hI hS => ?_)
  obtain ⟨rfl, ⟨ho_3, rfl⟩ | ⟨ho_3, rfl⟩⟩ := hp_1
  · refine W.eq (g2 := F0 m 4 ls [.int 1]) rfl ?_
    refine lv_if_eq (tgt := 14) hx hb dX4_same_4 (by decide) (fun c => absurd c (by decide)) (fun _ => ?_)
    refine lv_iload_n hx hb dX4_same_7 rfl (lv_at hl 2 rfl) ?_
    refine ca_S (As := [.int b]) (rest := []) ⟨hx, hb, hml, hown, hts⟩ (cc_X4_isPlace l E A _ b) (va_cwS 1 hts gX4_same_X4_isPlace rfl rfl rfl (by decide +kernel) ⟨(Nat.le_of_ble_eq_true rfl), (Nat.le_of_ble_eq_true rfl)⟩) hT hI hA hS rfl rfl hl.1 (Nat.le_of_ble_eq_true rfl) dX4_same_8 ⟨(Nat.le_of_ble_eq_true rfl), (Nat.le_of_ble_eq_true rfl)⟩ (fun r w_5 H locs hp_4 hI hS => ?_)
    obtain ⟨rfl, ⟨ho_6, rfl⟩ | ⟨ho_6, rfl⟩⟩ := hp_4
    · refine W.eq (g2 := F0 m 11 ls [.int 1]) rfl ?_
      refine lv_if_ne (tgt := 17) hx hb dX4_same_11 (by decide) (fun _ => ?_) (fun c => absurd c (by decide))
      obtain ⟨aj, haj, rfl⟩ := isP_nat ho_3
      obtain ⟨bj, hbj, rfl⟩ := isP_nat ho_6
      refine lv_aload_n hx hb dX4_same_17 rfl (lv_at hl 0 rfl) ?_
      refine wr_get (ci := 3) (C := RX4) (T := TX4) (N := 11) (v := .ref (mP M)) hx hb hts in_X4 hown hT hI hR.1 rfl 1 (by decide) (hts (.fieldLink RX4 7 "CopyRowsModel" "places" "[I") (by decide +kernel)) rfl dX4_same_18 ?_
      refine lv_iload_n hx hb dX4_same_21 rfl (lv_at hl 1 rfl) ?_
      refine wr_ialdN (t := aj) (n := 12) (f := plF S) hx hb hT hI hR.2.1 (by omega) (by omega) dX4_same_22 ?_
      refine W.eq (g2 := F0 m 23 ls [.int (sPl S aj)]) (by rw [plF_at (by omega)]) ?_
      refine lv_aload_n hx hb dX4_same_23 rfl (lv_at hl 0 rfl) ?_
      refine wr_get (ci := 3) (C := RX4) (T := TX4) (N := 11) (v := .ref (mP M)) hx hb hts in_X4 hown hT hI hR.1 rfl 1 (by decide) (hts (.fieldLink RX4 7 "CopyRowsModel" "places" "[I") (by decide +kernel)) rfl dX4_same_24 ?_
      refine lv_iload_n hx hb dX4_same_27 rfl (lv_at hl 2 rfl) ?_
      refine wr_ialdN (t := bj) (n := 12) (f := plF S) hx hb hT hI hR.2.1 (by omega) (by omega) dX4_same_28 ?_
      refine W.eq (g2 := F0 m 29 ls [.int (sPl S bj), .int (sPl S aj)]) (by rw [plF_at (by omega)]) ?_
      refine lv_icmp_ne (tgt := 36) hx hb dX4_same_29 (by decide) (fun c_7 => ?_) (fun c_7 => ?_)
      · refine lv_iconst (v := 0) hx hb dX4_same_36 (by decide) ?_
        exact re_i hx hb hr hlocks hT hA hS hI (PoM.of (by
                    unfold sp_same
                    try simp only [pv_nI haj, pv_nI hbj]
                    rw [if_neg ((fun q => q.elim ho_3 ho_6))]
                    rw [if_neg c_7]) hR) (Nat.le_of_ble_eq_true rfl) (Nat.le_of_ble_eq_true rfl) dX4_same_37
      · refine lv_iconst (v := 1) hx hb dX4_same_32 (by decide) ?_
        refine lv_goto (tgt := 37) hx hb dX4_same_33 (by decide) ?_
        exact re_i hx hb hr hlocks hT hA hS hI (PoM.of (by
                    unfold sp_same
                    try simp only [pv_nI haj, pv_nI hbj]
                    rw [if_neg ((fun q => q.elim ho_3 ho_6))]
                    rw [if_pos c_7]) hR) (Nat.le_of_ble_eq_true rfl) (Nat.le_of_ble_eq_true rfl) dX4_same_37
    · have ho_6 : oP b := Classical.not_not.mp ho_6
      refine W.eq (g2 := F0 m 11 ls [.int 0]) rfl ?_
      refine lv_if_ne (tgt := 17) hx hb dX4_same_11 (by decide) (fun c => absurd c (by decide)) (fun _ => ?_)
      refine lv_ldc (v := -2000000001) hx hb hown (hts (.constant RX4 54 (-2000000001)) (by decide +kernel)) dX4_same_14 ?_
      exact re_i hx hb hr hlocks hT hA hS hI (PoM.of (by
                unfold sp_same
                rw [if_pos (Or.inr (ho_6))]) hR) (Nat.le_of_ble_eq_true rfl) (Nat.le_of_ble_eq_true rfl) dX4_same_16
  · have ho_3 : oP a := Classical.not_not.mp ho_3
    refine W.eq (g2 := F0 m 4 ls [.int 0]) rfl ?_
    refine lv_if_eq (tgt := 14) hx hb dX4_same_4 (by decide) (fun _ => ?_) (fun c => absurd c (by decide))
    refine lv_ldc (v := -2000000001) hx hb hown (hts (.constant RX4 54 (-2000000001)) (by decide +kernel)) dX4_same_14 ?_
    exact re_i hx hb hr hlocks hT hA hS hI (PoM.of (by
            unfold sp_same
            rw [if_pos (Or.inl ho_3)]) hR) (Nat.le_of_ble_eq_true rfl) (Nat.le_of_ble_eq_true rfl) dX4_same_16

set_option maxHeartbeats 4000000 in
set_option maxRecDepth 100000 in
theorem cc_X4_compare (l : Launch) (E : En) (A : Nat → Prop) (w : Wd) {S : Sx} {M : Md} {tt : Nat → Int32} (a b : Int32) (hW : Wf S) (hR : Rm E S M tt w) (hb9 : sNr S < 512 ∧ sNt S < 512 ∧ sNl S < 512) : Ct l yX4_compare wsX4_compare ({ frames := 2, cells := 0, slots := 0, locals := 45 } : Room) E A w [.ref (mH M), .int a, .int b] (fun r w' => PoM E M (sp_compare S a b) r w') 0 0 := by
  refine Met.ofW (cc := cX4_compare) (maxL := 6) (ret := (some .int)) (by decide) rfl ?_
  intro pp0 ee0 s m args below meth cc0 s₁ B hml hv
  obtain ⟨rfl, hT, hI, hA⟩ := hv
  have hx := B.exec
  have hb := B.bytes
  have hr := B.returns
  have hts := atoms_spec (ws := wsX4_compare) B.pre
  have hown : s.vm.findClass RX4 = some m.cls := findClass_of_methodNamed B.named
  have hlocks := B.notSynchronized
  have in_X4 : ∀ w ∈ wsX40, w ∈ wsX4_compare := by decide +kernel
  have hS : va_S A s.heap s.heap [] := va_S.rf
  have hl := lv_entry ([.ref (mH M), .int a, .int b]) (n := 6) (Nat.le_of_ble_eq_true rfl)
  rw [lg_entry_eq]
  generalize (lg_sl ([.ref (mH M), .int a, .int b]) ++ List.replicate (6 - (lg_sl ([.ref (mH M), .int a, .int b])).length) Slot.unset).toArray = ls at hl ⊢
  have hl : lv_has ls 6 [(0, .ref (mH M)), (1, .int a), (2, .int b)] := hl
  refine lv_iload_n hx hb dX4_compare_0 rfl (lv_at hl 1 rfl) ?_
  refine ca_S (As := [.int a]) (rest := []) ⟨hx, hb, hml, hown, hts⟩ (cc_X4_isPlace l E A _ a) (va_cwS 1 hts gX4_compare_X4_isPlace rfl rfl rfl (by decide +kernel) ⟨(Nat.le_of_ble_eq_true rfl), (Nat.le_of_ble_eq_true rfl)⟩) hT hI hA hS rfl rfl hl.1 (Nat.le_of_ble_eq_true rfl) dX4_compare_1 ⟨(Nat.le_of_ble_eq_true rfl), (Nat.le_of_ble_eq_true rfl)⟩ (fun r w_2 H locs hp_1 hI hS => ?_)
  obtain ⟨rfl, ⟨ho_3, rfl⟩ | ⟨ho_3, rfl⟩⟩ := hp_1
  · refine W.eq (g2 := F0 m 4 ls [.int 1]) rfl ?_
    refine lv_if_eq (tgt := 14) hx hb dX4_compare_4 (by decide) (fun c => absurd c (by decide)) (fun _ => ?_)
    refine lv_iload_n hx hb dX4_compare_7 rfl (lv_at hl 2 rfl) ?_
    refine ca_S (As := [.int b]) (rest := []) ⟨hx, hb, hml, hown, hts⟩ (cc_X4_isPlace l E A _ b) (va_cwS 1 hts gX4_compare_X4_isPlace rfl rfl rfl (by decide +kernel) ⟨(Nat.le_of_ble_eq_true rfl), (Nat.le_of_ble_eq_true rfl)⟩) hT hI hA hS rfl rfl hl.1 (Nat.le_of_ble_eq_true rfl) dX4_compare_8 ⟨(Nat.le_of_ble_eq_true rfl), (Nat.le_of_ble_eq_true rfl)⟩ (fun r w_5 H locs hp_4 hI hS => ?_)
    obtain ⟨rfl, ⟨ho_6, rfl⟩ | ⟨ho_6, rfl⟩⟩ := hp_4
    · refine W.eq (g2 := F0 m 11 ls [.int 1]) rfl ?_
      refine lv_if_ne (tgt := 17) hx hb dX4_compare_11 (by decide) (fun _ => ?_) (fun c => absurd c (by decide))
      obtain ⟨aj, haj, rfl⟩ := isP_nat ho_3
      obtain ⟨bj, hbj, rfl⟩ := isP_nat ho_6
      refine lv_aload_n hx hb dX4_compare_17 rfl (lv_at hl 0 rfl) ?_
      refine wr_get (ci := 3) (C := RX4) (T := TX4) (N := 11) (v := .ref (mP M)) hx hb hts in_X4 hown hT hI hR.1 rfl 1 (by decide) (hts (.fieldLink RX4 7 "CopyRowsModel" "places" "[I") (by decide +kernel)) rfl dX4_compare_18 ?_
      refine lv_iload_n hx hb dX4_compare_21 rfl (lv_at hl 1 rfl) ?_
      refine wr_ialdN (t := aj) (n := 12) (f := plF S) hx hb hT hI hR.2.1 (by omega) (by omega) dX4_compare_22 ?_
      refine W.eq (g2 := F0 m 23 ls [.int (sPl S aj)]) (by rw [plF_at (by omega)]) ?_
      refine lv_iconst (v := -1) hx hb dX4_compare_23 (by decide) ?_
      refine lv_icmp_eq (tgt := 37) hx hb dX4_compare_24 (by decide) (fun c_7 => ?_) (fun c_7 => ?_)
      · refine lv_aload_n hx hb dX4_compare_37 rfl (lv_at hl 0 rfl) ?_
        refine lv_iconst (v := 1) hx hb dX4_compare_38 (by decide) ?_
        refine ca_V (As := [.int 1]) (rest := []) (r0 := (RX4, TX4, 11)) (ci := 3) ⟨hx, hb, hml, hown, hts⟩ (cc_X4_no l E A _ 1 hR) (cwV 1 hts gX4_compare_X4_no rfl rfl rfl (by decide +kernel) ⟨(Nat.le_of_ble_eq_true rfl), (Nat.le_of_ble_eq_true rfl)⟩) hT hI hA hS rfl hR.1 rfl rfl hl.1 (Nat.le_of_ble_eq_true rfl) dX4_compare_39 ⟨(Nat.le_of_ble_eq_true rfl), (Nat.le_of_ble_eq_true rfl)⟩ (fun r w_9 H locs hp_8 hI hS => ?_)
        obtain ⟨rfl, hR⟩ := hp_8
        refine W.eq (g2 := F0 m 42 ls [.int 0]) rfl ?_
        exact re_i hx hb hr hlocks hT hA hS hI (PoM.of (by
                    unfold sp_compare
                    try simp only [pv_nI haj, pv_nI hbj]
                    rw [if_neg ((fun q => q.elim ho_3 ho_6)), if_pos (Or.inl c_7)]
                    try rfl) hR) (Nat.le_of_ble_eq_true rfl) (Nat.le_of_ble_eq_true rfl) dX4_compare_42
      · refine lv_aload_n hx hb dX4_compare_27 rfl (lv_at hl 0 rfl) ?_
        refine wr_get (ci := 3) (C := RX4) (T := TX4) (N := 11) (v := .ref (mP M)) hx hb hts in_X4 hown hT hI hR.1 rfl 1 (by decide) (hts (.fieldLink RX4 7 "CopyRowsModel" "places" "[I") (by decide +kernel)) rfl dX4_compare_28 ?_
        refine lv_iload_n hx hb dX4_compare_31 rfl (lv_at hl 2 rfl) ?_
        refine wr_ialdN (t := bj) (n := 12) (f := plF S) hx hb hT hI hR.2.1 (by omega) (by omega) dX4_compare_32 ?_
        refine W.eq (g2 := F0 m 33 ls [.int (sPl S bj)]) (by rw [plF_at (by omega)]) ?_
        refine lv_iconst (v := -1) hx hb dX4_compare_33 (by decide) ?_
        refine lv_icmp_ne (tgt := 43) hx hb dX4_compare_34 (by decide) (fun c_10 => ?_) (fun c_10 => ?_)
        · refine lv_aload_n hx hb dX4_compare_43 rfl (lv_at hl 0 rfl) ?_
          refine lv_iload_n hx hb dX4_compare_44 rfl (lv_at hl 1 rfl) ?_
          refine ca_V (As := [.int (nI aj)]) (rest := []) (r0 := (RX4, TX4, 11)) (ci := 3) ⟨hx, hb, hml, hown, hts⟩ (cc_X4_kindOf l E A _ (by omega) hW hR) (cwV 1 hts gX4_compare_X4_kindOf rfl rfl rfl (by decide +kernel) ⟨(Nat.le_of_ble_eq_true rfl), (Nat.le_of_ble_eq_true rfl)⟩) hT hI hA hS rfl hR.1 rfl rfl hl.1 (Nat.le_of_ble_eq_true rfl) dX4_compare_45 ⟨(Nat.le_of_ble_eq_true rfl), (Nat.le_of_ble_eq_true rfl)⟩ (fun r w_12 H locs hp_11 hI hS => ?_)
          obtain ⟨rfl, rfl⟩ := hp_11
          rw [kp_ne c_7]
          refine W.eq (g2 := F0 m 48 ls [.int (kdv S (sPl S aj))]) rfl ?_
          refine lv_iconst (v := 2) hx hb dX4_compare_48 (by decide) ?_
          refine lv_icmp_ge (tgt := 65) hx hb dX4_compare_49 (by decide) (fun c_13 => ?_) (fun c_13 => ?_)
          · have c_13 : ¬ isN (kdv S (sPl S aj)) := fun q9 => Int32.not_lt.mpr c_13 ((lt2 (hW.kd ((hW.1 aj).resolve_left c_7))).mpr q9)
            refine lv_aload_n hx hb dX4_compare_65 rfl (lv_at hl 0 rfl) ?_
            refine lv_iconst (v := 5) hx hb dX4_compare_66 (by decide) ?_
            refine ca_V (As := [.int 5]) (rest := []) (r0 := (RX4, TX4, 11)) (ci := 3) ⟨hx, hb, hml, hown, hts⟩ (cc_X4_no l E A _ 5 hR) (cwV 1 hts gX4_compare_X4_no rfl rfl rfl (by decide +kernel) ⟨(Nat.le_of_ble_eq_true rfl), (Nat.le_of_ble_eq_true rfl)⟩) hT hI hA hS rfl hR.1 rfl rfl hl.1 (Nat.le_of_ble_eq_true rfl) dX4_compare_67 ⟨(Nat.le_of_ble_eq_true rfl), (Nat.le_of_ble_eq_true rfl)⟩ (fun r w_15 H locs hp_14 hI hS => ?_)
            obtain ⟨rfl, hR⟩ := hp_14
            refine W.eq (g2 := F0 m 70 ls [.int 0]) rfl ?_
            exact re_i hx hb hr hlocks hT hA hS hI (PoM.of (by
                            unfold sp_compare
                            try simp only [pv_nI haj, pv_nI hbj]
                            rw [if_neg ((fun q => q.elim ho_3 ho_6)), if_neg (fun q9 => q9.elim c_7 c_10), if_pos (Or.inl c_13)]
                            try rfl) hR) (Nat.le_of_ble_eq_true rfl) (Nat.le_of_ble_eq_true rfl) dX4_compare_70
          · have c_13 : isN (kdv S (sPl S aj)) := (lt2 (hW.kd ((hW.1 aj).resolve_left c_7))).mp (Int32.not_le.mp c_13)
            refine lv_aload_n hx hb dX4_compare_52 rfl (lv_at hl 0 rfl) ?_
            refine lv_iload_n hx hb dX4_compare_53 rfl (lv_at hl 1 rfl) ?_
            refine ca_V (As := [.int (nI aj)]) (rest := []) (r0 := (RX4, TX4, 11)) (ci := 3) ⟨hx, hb, hml, hown, hts⟩ (cc_X4_kindOf l E A _ (by omega) hW hR) (cwV 1 hts gX4_compare_X4_kindOf rfl rfl rfl (by decide +kernel) ⟨(Nat.le_of_ble_eq_true rfl), (Nat.le_of_ble_eq_true rfl)⟩) hT hI hA hS rfl hR.1 rfl rfl hl.1 (Nat.le_of_ble_eq_true rfl) dX4_compare_54 ⟨(Nat.le_of_ble_eq_true rfl), (Nat.le_of_ble_eq_true rfl)⟩ (fun r w_17 H locs hp_16 hI hS => ?_)
            obtain ⟨rfl, rfl⟩ := hp_16
            rw [kp_ne c_7]
            refine W.eq (g2 := F0 m 57 ls [.int (kdv S (sPl S aj))]) rfl ?_
            refine lv_aload_n hx hb dX4_compare_57 rfl (lv_at hl 0 rfl) ?_
            refine lv_iload_n hx hb dX4_compare_58 rfl (lv_at hl 2 rfl) ?_
            refine ca_V (As := [.int (nI bj)]) (rest := [.int (kdv S (sPl S aj))]) (r0 := (RX4, TX4, 11)) (ci := 3) ⟨hx, hb, hml, hown, hts⟩ (cc_X4_kindOf l E A _ (by omega) hW hR) (cwV 1 hts gX4_compare_X4_kindOf rfl rfl rfl (by decide +kernel) ⟨(Nat.le_of_ble_eq_true rfl), (Nat.le_of_ble_eq_true rfl)⟩) hT hI hA hS rfl hR.1 rfl rfl hl.1 (Nat.le_of_ble_eq_true rfl) dX4_compare_59 ⟨(Nat.le_of_ble_eq_true rfl), (Nat.le_of_ble_eq_true rfl)⟩ (fun r w_19 H locs hp_18 hI hS => ?_)
            obtain ⟨rfl, rfl⟩ := hp_18
            rw [kp_ne c_10]
            refine W.eq (g2 := F0 m 62 ls [.int (kdv S (sPl S bj)), .int (kdv S (sPl S aj))]) rfl ?_
            refine lv_icmp_eq (tgt := 71) hx hb dX4_compare_62 (by decide) (fun c_20 => ?_) (fun c_20 => ?_)
            · have hra : vR S (sPl S aj) := row_of_N ((hW.1 aj).resolve_left c_7) c_13
              have hrb : vR S (sPl S bj) := row_of_N ((hW.1 bj).resolve_left c_10) (by rw [← c_20]; exact c_13)
              have hla := hW.ln (Or.inl hra)
              have hlb := hW.ln (Or.inl hrb)
              refine lv_aload_n hx hb dX4_compare_71 rfl (lv_at hl 0 rfl) ?_
              refine wr_get (ci := 3) (C := RX4) (T := TX4) (N := 11) (v := .ref (mP M)) hx hb hts in_X4 hown hT hI hR.1 rfl 1 (by decide) (hts (.fieldLink RX4 7 "CopyRowsModel" "places" "[I") (by decide +kernel)) rfl dX4_compare_72 ?_
              refine lv_iload_n hx hb dX4_compare_75 rfl (lv_at hl 1 rfl) ?_
              refine wr_ialdN (t := aj) (n := 12) (f := plF S) hx hb hT hI hR.2.1 (by omega) (by omega) dX4_compare_76 ?_
              refine W.eq (g2 := F0 m 77 ls [.int (sPl S aj)]) (by rw [plF_at (by omega)]) ?_
              refine lv_istore_n (lv' := [(3, .int (sPl S aj)), (0, .ref (mH M)), (1, .int (nI aj)), (2, .int (nI bj))]) hx hb dX4_compare_77 rfl hl (by decide) rfl (fun ls hl => ?_)
              refine lv_aload_n hx hb dX4_compare_78 rfl (lv_at hl 1 rfl) ?_
              refine wr_get (ci := 3) (C := RX4) (T := TX4) (N := 11) (v := .ref (mP M)) hx hb hts in_X4 hown hT hI hR.1 rfl 1 (by decide) (hts (.fieldLink RX4 7 "CopyRowsModel" "places" "[I") (by decide +kernel)) rfl dX4_compare_79 ?_
              refine lv_iload_n hx hb dX4_compare_82 rfl (lv_at hl 3 rfl) ?_
              refine wr_ialdN (t := bj) (n := 12) (f := plF S) hx hb hT hI hR.2.1 (by omega) (by omega) dX4_compare_83 ?_
              refine W.eq (g2 := F0 m 84 ls [.int (sPl S bj)]) (by rw [plF_at (by omega)]) ?_
              refine lv_istore (lv' := [(4, .int (sPl S bj)), (3, .int (sPl S aj)), (0, .ref (mH M)), (1, .int (nI aj)), (2, .int (nI bj))]) hx hb dX4_compare_84 hl (by decide) rfl (fun ls hl => ?_)
              refine lv_iconst (v := 0) hx hb dX4_compare_86 (by decide) ?_
              refine lv_istore (lv' := [(5, .int 0), (4, .int (sPl S bj)), (3, .int (sPl S aj)), (0, .ref (mH M)), (1, .int (nI aj)), (2, .int (nI bj))]) hx hb dX4_compare_87 hl (by decide) rfl (fun ls hl => ?_)
              refine lp_w (ι := Nat) (fun t => lnv S (sPl S aj) - t) (fun t H locs ls => (t ≤ lnv S (sPl S aj) ∧ cmpF (itv S (sPl S aj)) (itv S (sPl S bj)) (lnv S (sPl S aj)) (lnv S (sPl S bj)) (lnv S (sPl S aj)) 0 = cmpF (itv S (sPl S aj)) (itv S (sPl S bj)) (lnv S (sPl S aj)) (lnv S (sPl S bj)) (lnv S (sPl S aj) - t) t) ∧ Hv E A w H ∧ va_S A s.heap H locs ∧ lv_has ls 6 [(0, .ref (mH M)), (3, .int (sPl S aj)), (4, .int (sPl S bj)), (5, .int (nI t))]) ?_ 0 _ _ _ ⟨⟨Nat.zero_le _, rfl⟩, hI, hS, lv_sub hl [3, 2, 1, 0] (rfl)⟩
              intro t H locs ls hq ih
              obtain ⟨⟨ht, hcm⟩, hI, hS, hl⟩ := hq
              refine lv_iload hx hb dX4_compare_89 (lv_at hl 3 rfl) ?_
              refine lv_aload_n hx hb dX4_compare_91 rfl (lv_at hl 0 rfl) ?_
              refine wr_get (ci := 3) (C := RX4) (T := TX4) (N := 11) (v := .ref (mL M)) hx hb hts in_X4 hown hT hI hR.1 rfl 4 (by decide) (hts (.fieldLink RX4 16 "CopyRowsModel" "lengths" "[I") (by decide +kernel)) rfl dX4_compare_92 ?_
              refine lv_iload_n hx hb dX4_compare_95 rfl (lv_at hl 1 rfl) ?_
              refine W.eq (g2 := F0 m 96 ls [.int (nI (ix (sPl S aj))), .ref (mL M), .int (nI t)]) (by rw [nI_ix hra.1]) ?_
              refine wr_ialdN (t := ix (sPl S aj)) (n := 520) (f := lnF S) hx hb hT hI hR.2.2.2.1 (by have h9 := hra.2; have h8 := hW.2.2.2; omega) (by omega) dX4_compare_96 ?_
              refine W.eq (g2 := F0 m 97 ls [.int (nI (lnv S (sPl S aj))), .int (nI t)]) (by rw [lnv_r hra]; rfl) ?_
              refine lv_icmp_ge (tgt := 164) hx hb dX4_compare_97 (by decide) (fun c_21 => ?_) (fun c_21 => ?_)
              · have c_21 : lnv S (sPl S aj) ≤ t := (nI_leI (a := lnv S (sPl S aj)) (b := t) (by omega) (by omega)).mp c_21
                refine lv_aload_n hx hb dX4_compare_164 rfl (lv_at hl 0 rfl) ?_
                refine lv_aload_n hx hb dX4_compare_165 rfl (lv_at hl 0 rfl) ?_
                refine wr_get (ci := 3) (C := RX4) (T := TX4) (N := 11) (v := .ref (mL M)) hx hb hts in_X4 hown hT hI hR.1 rfl 4 (by decide) (hts (.fieldLink RX4 16 "CopyRowsModel" "lengths" "[I") (by decide +kernel)) rfl dX4_compare_166 ?_
                refine lv_iload_n hx hb dX4_compare_169 rfl (lv_at hl 1 rfl) ?_
                refine W.eq (g2 := F0 m 170 ls [.int (nI (ix (sPl S aj))), .ref (mL M), .ref (mH M)]) (by rw [nI_ix hra.1]) ?_
                refine wr_ialdN (t := ix (sPl S aj)) (n := 520) (f := lnF S) hx hb hT hI hR.2.2.2.1 (by have h9 := hra.2; have h8 := hW.2.2.2; omega) (by omega) dX4_compare_170 ?_
                refine W.eq (g2 := F0 m 171 ls [.int (nI (lnv S (sPl S aj))), .ref (mH M)]) (by rw [lnv_r hra]; rfl) ?_
                refine lv_aload_n hx hb dX4_compare_171 rfl (lv_at hl 0 rfl) ?_
                refine wr_get (ci := 3) (C := RX4) (T := TX4) (N := 11) (v := .ref (mL M)) hx hb hts in_X4 hown hT hI hR.1 rfl 4 (by decide) (hts (.fieldLink RX4 16 "CopyRowsModel" "lengths" "[I") (by decide +kernel)) rfl dX4_compare_172 ?_
                refine lv_iload hx hb dX4_compare_175 (lv_at hl 2 rfl) ?_
                refine W.eq (g2 := F0 m 177 ls [.int (nI (ix (sPl S bj))), .ref (mL M), .int (nI (lnv S (sPl S aj))), .ref (mH M)]) (by rw [nI_ix hrb.1]) ?_
                refine wr_ialdN (t := ix (sPl S bj)) (n := 520) (f := lnF S) hx hb hT hI hR.2.2.2.1 (by have h9 := hrb.2; have h8 := hW.2.2.2; omega) (by omega) dX4_compare_177 ?_
                refine W.eq (g2 := F0 m 178 ls [.int (nI (lnv S (sPl S bj))), .int (nI (lnv S (sPl S aj))), .ref (mH M)]) (by rw [lnv_r hrb]; rfl) ?_
                refine lv_icmp_ge (tgt := 185) hx hb dX4_compare_178 (by decide) (fun c_22 => ?_) (fun c_22 => ?_)
                · have c_22 : lnv S (sPl S bj) ≤ lnv S (sPl S aj) := (nI_leI (a := lnv S (sPl S bj)) (b := lnv S (sPl S aj)) (by omega) (by omega)).mp c_22
                  refine lv_aload_n hx hb dX4_compare_185 rfl (lv_at hl 0 rfl) ?_
                  refine wr_get (ci := 3) (C := RX4) (T := TX4) (N := 11) (v := .ref (mL M)) hx hb hts in_X4 hown hT hI hR.1 rfl 4 (by decide) (hts (.fieldLink RX4 16 "CopyRowsModel" "lengths" "[I") (by decide +kernel)) rfl dX4_compare_186 ?_
                  refine lv_iload_n hx hb dX4_compare_189 rfl (lv_at hl 1 rfl) ?_
                  refine W.eq (g2 := F0 m 190 ls [.int (nI (ix (sPl S aj))), .ref (mL M), .ref (mH M)]) (by rw [nI_ix hra.1]) ?_
                  refine wr_ialdN (t := ix (sPl S aj)) (n := 520) (f := lnF S) hx hb hT hI hR.2.2.2.1 (by have h9 := hra.2; have h8 := hW.2.2.2; omega) (by omega) dX4_compare_190 ?_
                  refine W.eq (g2 := F0 m 191 ls [.int (nI (lnv S (sPl S aj))), .ref (mH M)]) (by rw [lnv_r hra]; rfl) ?_
                  refine lv_aload_n hx hb dX4_compare_191 rfl (lv_at hl 0 rfl) ?_
                  refine wr_get (ci := 3) (C := RX4) (T := TX4) (N := 11) (v := .ref (mL M)) hx hb hts in_X4 hown hT hI hR.1 rfl 4 (by decide) (hts (.fieldLink RX4 16 "CopyRowsModel" "lengths" "[I") (by decide +kernel)) rfl dX4_compare_192 ?_
                  refine lv_iload hx hb dX4_compare_195 (lv_at hl 2 rfl) ?_
                  refine W.eq (g2 := F0 m 197 ls [.int (nI (ix (sPl S bj))), .ref (mL M), .int (nI (lnv S (sPl S aj))), .ref (mH M)]) (by rw [nI_ix hrb.1]) ?_
                  refine wr_ialdN (t := ix (sPl S bj)) (n := 520) (f := lnF S) hx hb hT hI hR.2.2.2.1 (by have h9 := hrb.2; have h8 := hW.2.2.2; omega) (by omega) dX4_compare_197 ?_
                  refine W.eq (g2 := F0 m 198 ls [.int (nI (lnv S (sPl S bj))), .int (nI (lnv S (sPl S aj))), .ref (mH M)]) (by rw [lnv_r hrb]; rfl) ?_
                  refine lv_icmp_le (tgt := 205) hx hb dX4_compare_198 (by decide) (fun c_23 => ?_) (fun c_23 => ?_)
                  · have c_23 : lnv S (sPl S aj) ≤ lnv S (sPl S bj) := (nI_leI (a := lnv S (sPl S aj)) (b := lnv S (sPl S bj)) (by omega) (by omega)).mp c_23
                    refine lv_iconst (v := 0) hx hb dX4_compare_205 (by decide) ?_
                    refine ca_V (As := [.int 0]) (rest := []) (r0 := (RX4, TX4, 11)) (ci := 3) ⟨hx, hb, hml, hown, hts⟩ (cc_X4_yes l E A _ 0 hR) (cwV 1 hts gX4_compare_X4_yes rfl rfl rfl (by decide +kernel) ⟨(Nat.le_of_ble_eq_true rfl), (Nat.le_of_ble_eq_true rfl)⟩) hT hI hA hS rfl hR.1 rfl rfl hl.1 (Nat.le_of_ble_eq_true rfl) dX4_compare_206 ⟨(Nat.le_of_ble_eq_true rfl), (Nat.le_of_ble_eq_true rfl)⟩ (fun r w_25 H locs hp_24 hI hS => ?_)
                    obtain ⟨rfl, hR⟩ := hp_24
                    refine W.eq (g2 := F0 m 209 ls [.int 0]) rfl ?_
                    exact re_i hx hb hr hlocks hT hA hS hI (PoM.of (by
                                            unfold sp_compare
                                            try simp only [pv_nI haj, pv_nI hbj]
                                            rw [if_neg ((fun q => q.elim ho_3 ho_6)), if_neg (fun q9 => q9.elim c_7 c_10), if_neg (fun q9 => q9.elim (not_not_intro c_13) (not_not_intro c_20))]
                                            rw [hcm]
                                            cases hd : lnv S (sPl S aj) - t with
                                            | zero => simp only [cmpF]; first | (exfalso; omega) | rw [if_pos (by omega)] | rw [if_neg (by omega), if_pos (by omega)] | rw [if_neg (by omega), if_neg (by omega)]
                                            | succ d => simp only [cmpF]; rw [if_neg (by omega)]; first | (exfalso; omega) | rw [if_pos (by omega)] | rw [if_neg (by omega), if_pos (by omega)] | rw [if_neg (by omega), if_neg (by omega)]) hR) (Nat.le_of_ble_eq_true rfl) (Nat.le_of_ble_eq_true rfl) dX4_compare_209
                  · have c_23 : ¬ lnv S (sPl S aj) ≤ lnv S (sPl S bj) := fun q => c_23 ((nI_leI (a := lnv S (sPl S aj)) (b := lnv S (sPl S bj)) (by omega) (by omega)).mpr q)
                    refine lv_iconst (v := 1) hx hb dX4_compare_201 (by decide) ?_
                    refine lv_goto (tgt := 206) hx hb dX4_compare_202 (by decide) ?_
                    refine ca_V (As := [.int 1]) (rest := []) (r0 := (RX4, TX4, 11)) (ci := 3) ⟨hx, hb, hml, hown, hts⟩ (cc_X4_yes l E A _ 1 hR) (cwV 1 hts gX4_compare_X4_yes rfl rfl rfl (by decide +kernel) ⟨(Nat.le_of_ble_eq_true rfl), (Nat.le_of_ble_eq_true rfl)⟩) hT hI hA hS rfl hR.1 rfl rfl hl.1 (Nat.le_of_ble_eq_true rfl) dX4_compare_206 ⟨(Nat.le_of_ble_eq_true rfl), (Nat.le_of_ble_eq_true rfl)⟩ (fun r w_27 H locs hp_26 hI hS => ?_)
                    obtain ⟨rfl, hR⟩ := hp_26
                    refine W.eq (g2 := F0 m 209 ls [.int 1]) rfl ?_
                    exact re_i hx hb hr hlocks hT hA hS hI (PoM.of (by
                                            unfold sp_compare
                                            try simp only [pv_nI haj, pv_nI hbj]
                                            rw [if_neg ((fun q => q.elim ho_3 ho_6)), if_neg (fun q9 => q9.elim c_7 c_10), if_neg (fun q9 => q9.elim (not_not_intro c_13) (not_not_intro c_20))]
                                            rw [hcm]
                                            cases hd : lnv S (sPl S aj) - t with
                                            | zero => simp only [cmpF]; first | (exfalso; omega) | rw [if_pos (by omega)] | rw [if_neg (by omega), if_pos (by omega)] | rw [if_neg (by omega), if_neg (by omega)]
                                            | succ d => simp only [cmpF]; rw [if_neg (by omega)]; first | (exfalso; omega) | rw [if_pos (by omega)] | rw [if_neg (by omega), if_pos (by omega)] | rw [if_neg (by omega), if_neg (by omega)]) hR) (Nat.le_of_ble_eq_true rfl) (Nat.le_of_ble_eq_true rfl) dX4_compare_209
                · have c_22 : ¬ lnv S (sPl S bj) ≤ lnv S (sPl S aj) := fun q => c_22 ((nI_leI (a := lnv S (sPl S bj)) (b := lnv S (sPl S aj)) (by omega) (by omega)).mpr q)
                  refine lv_iconst (v := -1) hx hb dX4_compare_181 (by decide) ?_
                  refine lv_goto (tgt := 206) hx hb dX4_compare_182 (by decide) ?_
                  refine ca_V (As := [.int (-1)]) (rest := []) (r0 := (RX4, TX4, 11)) (ci := 3) ⟨hx, hb, hml, hown, hts⟩ (cc_X4_yes l E A _ (-1) hR) (cwV 1 hts gX4_compare_X4_yes rfl rfl rfl (by decide +kernel) ⟨(Nat.le_of_ble_eq_true rfl), (Nat.le_of_ble_eq_true rfl)⟩) hT hI hA hS rfl hR.1 rfl rfl hl.1 (Nat.le_of_ble_eq_true rfl) dX4_compare_206 ⟨(Nat.le_of_ble_eq_true rfl), (Nat.le_of_ble_eq_true rfl)⟩ (fun r w_29 H locs hp_28 hI hS => ?_)
                  obtain ⟨rfl, hR⟩ := hp_28
                  refine W.eq (g2 := F0 m 209 ls [.int (-1)]) rfl ?_
                  exact re_i hx hb hr hlocks hT hA hS hI (PoM.of (by
                                        unfold sp_compare
                                        try simp only [pv_nI haj, pv_nI hbj]
                                        rw [if_neg ((fun q => q.elim ho_3 ho_6)), if_neg (fun q9 => q9.elim c_7 c_10), if_neg (fun q9 => q9.elim (not_not_intro c_13) (not_not_intro c_20))]
                                        rw [hcm]
                                        cases hd : lnv S (sPl S aj) - t with
                                        | zero => simp only [cmpF]; first | (exfalso; omega) | rw [if_pos (by omega)] | rw [if_neg (by omega), if_pos (by omega)] | rw [if_neg (by omega), if_neg (by omega)]
                                        | succ d => simp only [cmpF]; rw [if_neg (by omega)]; first | (exfalso; omega) | rw [if_pos (by omega)] | rw [if_neg (by omega), if_pos (by omega)] | rw [if_neg (by omega), if_neg (by omega)]) hR) (Nat.le_of_ble_eq_true rfl) (Nat.le_of_ble_eq_true rfl) dX4_compare_209
              · have c_21 : ¬ lnv S (sPl S aj) ≤ t := fun q => c_21 ((nI_leI (a := lnv S (sPl S aj)) (b := t) (by omega) (by omega)).mpr q)
                refine lv_iload hx hb dX4_compare_100 (lv_at hl 3 rfl) ?_
                refine lv_aload_n hx hb dX4_compare_102 rfl (lv_at hl 0 rfl) ?_
                refine wr_get (ci := 3) (C := RX4) (T := TX4) (N := 11) (v := .ref (mL M)) hx hb hts in_X4 hown hT hI hR.1 rfl 4 (by decide) (hts (.fieldLink RX4 16 "CopyRowsModel" "lengths" "[I") (by decide +kernel)) rfl dX4_compare_103 ?_
                refine lv_iload hx hb dX4_compare_106 (lv_at hl 2 rfl) ?_
                refine W.eq (g2 := F0 m 108 ls [.int (nI (ix (sPl S bj))), .ref (mL M), .int (nI t)]) (by rw [nI_ix hrb.1]) ?_
                refine wr_ialdN (t := ix (sPl S bj)) (n := 520) (f := lnF S) hx hb hT hI hR.2.2.2.1 (by have h9 := hrb.2; have h8 := hW.2.2.2; omega) (by omega) dX4_compare_108 ?_
                refine W.eq (g2 := F0 m 109 ls [.int (nI (lnv S (sPl S bj))), .int (nI t)]) (by rw [lnv_r hrb]; rfl) ?_
                refine lv_icmp_ge (tgt := 164) hx hb dX4_compare_109 (by decide) (fun c_30 => ?_) (fun c_30 => ?_)
                · have c_30 : lnv S (sPl S bj) ≤ t := (nI_leI (a := lnv S (sPl S bj)) (b := t) (by omega) (by omega)).mp c_30
                  refine lv_aload_n hx hb dX4_compare_164 rfl (lv_at hl 0 rfl) ?_
                  refine lv_aload_n hx hb dX4_compare_165 rfl (lv_at hl 0 rfl) ?_
                  refine wr_get (ci := 3) (C := RX4) (T := TX4) (N := 11) (v := .ref (mL M)) hx hb hts in_X4 hown hT hI hR.1 rfl 4 (by decide) (hts (.fieldLink RX4 16 "CopyRowsModel" "lengths" "[I") (by decide +kernel)) rfl dX4_compare_166 ?_
                  refine lv_iload_n hx hb dX4_compare_169 rfl (lv_at hl 1 rfl) ?_
                  refine W.eq (g2 := F0 m 170 ls [.int (nI (ix (sPl S aj))), .ref (mL M), .ref (mH M)]) (by rw [nI_ix hra.1]) ?_
                  refine wr_ialdN (t := ix (sPl S aj)) (n := 520) (f := lnF S) hx hb hT hI hR.2.2.2.1 (by have h9 := hra.2; have h8 := hW.2.2.2; omega) (by omega) dX4_compare_170 ?_
                  refine W.eq (g2 := F0 m 171 ls [.int (nI (lnv S (sPl S aj))), .ref (mH M)]) (by rw [lnv_r hra]; rfl) ?_
                  refine lv_aload_n hx hb dX4_compare_171 rfl (lv_at hl 0 rfl) ?_
                  refine wr_get (ci := 3) (C := RX4) (T := TX4) (N := 11) (v := .ref (mL M)) hx hb hts in_X4 hown hT hI hR.1 rfl 4 (by decide) (hts (.fieldLink RX4 16 "CopyRowsModel" "lengths" "[I") (by decide +kernel)) rfl dX4_compare_172 ?_
                  refine lv_iload hx hb dX4_compare_175 (lv_at hl 2 rfl) ?_
                  refine W.eq (g2 := F0 m 177 ls [.int (nI (ix (sPl S bj))), .ref (mL M), .int (nI (lnv S (sPl S aj))), .ref (mH M)]) (by rw [nI_ix hrb.1]) ?_
                  refine wr_ialdN (t := ix (sPl S bj)) (n := 520) (f := lnF S) hx hb hT hI hR.2.2.2.1 (by have h9 := hrb.2; have h8 := hW.2.2.2; omega) (by omega) dX4_compare_177 ?_
                  refine W.eq (g2 := F0 m 178 ls [.int (nI (lnv S (sPl S bj))), .int (nI (lnv S (sPl S aj))), .ref (mH M)]) (by rw [lnv_r hrb]; rfl) ?_
                  refine lv_icmp_ge (tgt := 185) hx hb dX4_compare_178 (by decide) (fun c_31 => ?_) (fun c_31 => ?_)
                  · have c_31 : lnv S (sPl S bj) ≤ lnv S (sPl S aj) := (nI_leI (a := lnv S (sPl S bj)) (b := lnv S (sPl S aj)) (by omega) (by omega)).mp c_31
                    refine lv_aload_n hx hb dX4_compare_185 rfl (lv_at hl 0 rfl) ?_
                    refine wr_get (ci := 3) (C := RX4) (T := TX4) (N := 11) (v := .ref (mL M)) hx hb hts in_X4 hown hT hI hR.1 rfl 4 (by decide) (hts (.fieldLink RX4 16 "CopyRowsModel" "lengths" "[I") (by decide +kernel)) rfl dX4_compare_186 ?_
                    refine lv_iload_n hx hb dX4_compare_189 rfl (lv_at hl 1 rfl) ?_
                    refine W.eq (g2 := F0 m 190 ls [.int (nI (ix (sPl S aj))), .ref (mL M), .ref (mH M)]) (by rw [nI_ix hra.1]) ?_
                    refine wr_ialdN (t := ix (sPl S aj)) (n := 520) (f := lnF S) hx hb hT hI hR.2.2.2.1 (by have h9 := hra.2; have h8 := hW.2.2.2; omega) (by omega) dX4_compare_190 ?_
                    refine W.eq (g2 := F0 m 191 ls [.int (nI (lnv S (sPl S aj))), .ref (mH M)]) (by rw [lnv_r hra]; rfl) ?_
                    refine lv_aload_n hx hb dX4_compare_191 rfl (lv_at hl 0 rfl) ?_
                    refine wr_get (ci := 3) (C := RX4) (T := TX4) (N := 11) (v := .ref (mL M)) hx hb hts in_X4 hown hT hI hR.1 rfl 4 (by decide) (hts (.fieldLink RX4 16 "CopyRowsModel" "lengths" "[I") (by decide +kernel)) rfl dX4_compare_192 ?_
                    refine lv_iload hx hb dX4_compare_195 (lv_at hl 2 rfl) ?_
                    refine W.eq (g2 := F0 m 197 ls [.int (nI (ix (sPl S bj))), .ref (mL M), .int (nI (lnv S (sPl S aj))), .ref (mH M)]) (by rw [nI_ix hrb.1]) ?_
                    refine wr_ialdN (t := ix (sPl S bj)) (n := 520) (f := lnF S) hx hb hT hI hR.2.2.2.1 (by have h9 := hrb.2; have h8 := hW.2.2.2; omega) (by omega) dX4_compare_197 ?_
                    refine W.eq (g2 := F0 m 198 ls [.int (nI (lnv S (sPl S bj))), .int (nI (lnv S (sPl S aj))), .ref (mH M)]) (by rw [lnv_r hrb]; rfl) ?_
                    refine lv_icmp_le (tgt := 205) hx hb dX4_compare_198 (by decide) (fun c_32 => ?_) (fun c_32 => ?_)
                    · have c_32 : lnv S (sPl S aj) ≤ lnv S (sPl S bj) := (nI_leI (a := lnv S (sPl S aj)) (b := lnv S (sPl S bj)) (by omega) (by omega)).mp c_32
                      refine lv_iconst (v := 0) hx hb dX4_compare_205 (by decide) ?_
                      refine ca_V (As := [.int 0]) (rest := []) (r0 := (RX4, TX4, 11)) (ci := 3) ⟨hx, hb, hml, hown, hts⟩ (cc_X4_yes l E A _ 0 hR) (cwV 1 hts gX4_compare_X4_yes rfl rfl rfl (by decide +kernel) ⟨(Nat.le_of_ble_eq_true rfl), (Nat.le_of_ble_eq_true rfl)⟩) hT hI hA hS rfl hR.1 rfl rfl hl.1 (Nat.le_of_ble_eq_true rfl) dX4_compare_206 ⟨(Nat.le_of_ble_eq_true rfl), (Nat.le_of_ble_eq_true rfl)⟩ (fun r w_34 H locs hp_33 hI hS => ?_)
                      obtain ⟨rfl, hR⟩ := hp_33
                      refine W.eq (g2 := F0 m 209 ls [.int 0]) rfl ?_
                      exact re_i hx hb hr hlocks hT hA hS hI (PoM.of (by
                                                unfold sp_compare
                                                try simp only [pv_nI haj, pv_nI hbj]
                                                rw [if_neg ((fun q => q.elim ho_3 ho_6)), if_neg (fun q9 => q9.elim c_7 c_10), if_neg (fun q9 => q9.elim (not_not_intro c_13) (not_not_intro c_20))]
                                                rw [hcm]
                                                cases hd : lnv S (sPl S aj) - t with
                                                | zero => simp only [cmpF]; first | (exfalso; omega) | rw [if_pos (by omega)] | rw [if_neg (by omega), if_pos (by omega)] | rw [if_neg (by omega), if_neg (by omega)]
                                                | succ d => simp only [cmpF]; rw [if_neg (by omega)]; first | (exfalso; omega) | rw [if_pos (by omega)] | rw [if_neg (by omega), if_pos (by omega)] | rw [if_neg (by omega), if_neg (by omega)]) hR) (Nat.le_of_ble_eq_true rfl) (Nat.le_of_ble_eq_true rfl) dX4_compare_209
                    · have c_32 : ¬ lnv S (sPl S aj) ≤ lnv S (sPl S bj) := fun q => c_32 ((nI_leI (a := lnv S (sPl S aj)) (b := lnv S (sPl S bj)) (by omega) (by omega)).mpr q)
                      refine lv_iconst (v := 1) hx hb dX4_compare_201 (by decide) ?_
                      refine lv_goto (tgt := 206) hx hb dX4_compare_202 (by decide) ?_
                      refine ca_V (As := [.int 1]) (rest := []) (r0 := (RX4, TX4, 11)) (ci := 3) ⟨hx, hb, hml, hown, hts⟩ (cc_X4_yes l E A _ 1 hR) (cwV 1 hts gX4_compare_X4_yes rfl rfl rfl (by decide +kernel) ⟨(Nat.le_of_ble_eq_true rfl), (Nat.le_of_ble_eq_true rfl)⟩) hT hI hA hS rfl hR.1 rfl rfl hl.1 (Nat.le_of_ble_eq_true rfl) dX4_compare_206 ⟨(Nat.le_of_ble_eq_true rfl), (Nat.le_of_ble_eq_true rfl)⟩ (fun r w_36 H locs hp_35 hI hS => ?_)
                      obtain ⟨rfl, hR⟩ := hp_35
                      refine W.eq (g2 := F0 m 209 ls [.int 1]) rfl ?_
                      exact re_i hx hb hr hlocks hT hA hS hI (PoM.of (by
                                                unfold sp_compare
                                                try simp only [pv_nI haj, pv_nI hbj]
                                                rw [if_neg ((fun q => q.elim ho_3 ho_6)), if_neg (fun q9 => q9.elim c_7 c_10), if_neg (fun q9 => q9.elim (not_not_intro c_13) (not_not_intro c_20))]
                                                rw [hcm]
                                                cases hd : lnv S (sPl S aj) - t with
                                                | zero => simp only [cmpF]; first | (exfalso; omega) | rw [if_pos (by omega)] | rw [if_neg (by omega), if_pos (by omega)] | rw [if_neg (by omega), if_neg (by omega)]
                                                | succ d => simp only [cmpF]; rw [if_neg (by omega)]; first | (exfalso; omega) | rw [if_pos (by omega)] | rw [if_neg (by omega), if_pos (by omega)] | rw [if_neg (by omega), if_neg (by omega)]) hR) (Nat.le_of_ble_eq_true rfl) (Nat.le_of_ble_eq_true rfl) dX4_compare_209
                  · have c_31 : ¬ lnv S (sPl S bj) ≤ lnv S (sPl S aj) := fun q => c_31 ((nI_leI (a := lnv S (sPl S bj)) (b := lnv S (sPl S aj)) (by omega) (by omega)).mpr q)
                    refine lv_iconst (v := -1) hx hb dX4_compare_181 (by decide) ?_
                    refine lv_goto (tgt := 206) hx hb dX4_compare_182 (by decide) ?_
                    refine ca_V (As := [.int (-1)]) (rest := []) (r0 := (RX4, TX4, 11)) (ci := 3) ⟨hx, hb, hml, hown, hts⟩ (cc_X4_yes l E A _ (-1) hR) (cwV 1 hts gX4_compare_X4_yes rfl rfl rfl (by decide +kernel) ⟨(Nat.le_of_ble_eq_true rfl), (Nat.le_of_ble_eq_true rfl)⟩) hT hI hA hS rfl hR.1 rfl rfl hl.1 (Nat.le_of_ble_eq_true rfl) dX4_compare_206 ⟨(Nat.le_of_ble_eq_true rfl), (Nat.le_of_ble_eq_true rfl)⟩ (fun r w_38 H locs hp_37 hI hS => ?_)
                    obtain ⟨rfl, hR⟩ := hp_37
                    refine W.eq (g2 := F0 m 209 ls [.int (-1)]) rfl ?_
                    exact re_i hx hb hr hlocks hT hA hS hI (PoM.of (by
                                            unfold sp_compare
                                            try simp only [pv_nI haj, pv_nI hbj]
                                            rw [if_neg ((fun q => q.elim ho_3 ho_6)), if_neg (fun q9 => q9.elim c_7 c_10), if_neg (fun q9 => q9.elim (not_not_intro c_13) (not_not_intro c_20))]
                                            rw [hcm]
                                            cases hd : lnv S (sPl S aj) - t with
                                            | zero => simp only [cmpF]; first | (exfalso; omega) | rw [if_pos (by omega)] | rw [if_neg (by omega), if_pos (by omega)] | rw [if_neg (by omega), if_neg (by omega)]
                                            | succ d => simp only [cmpF]; rw [if_neg (by omega)]; first | (exfalso; omega) | rw [if_pos (by omega)] | rw [if_neg (by omega), if_pos (by omega)] | rw [if_neg (by omega), if_neg (by omega)]) hR) (Nat.le_of_ble_eq_true rfl) (Nat.le_of_ble_eq_true rfl) dX4_compare_209
                · have c_30 : ¬ lnv S (sPl S bj) ≤ t := fun q => c_30 ((nI_leI (a := lnv S (sPl S bj)) (b := t) (by omega) (by omega)).mpr q)
                  refine lv_aload_n hx hb dX4_compare_112 rfl (lv_at hl 0 rfl) ?_
                  refine lv_iload_n hx hb dX4_compare_113 rfl (lv_at hl 1 rfl) ?_
                  refine lv_iload hx hb dX4_compare_114 (lv_at hl 3 rfl) ?_
                  refine ca_V (As := [.int (sPl S aj), .int (nI t)]) (rest := []) (r0 := (RX4, TX4, 11)) (ci := 3) ⟨hx, hb, hml, hown, hts⟩ (cM_get l E A _ hra (by have := hW.2.2.2; omega) (by omega) hR) (cwV 2 hts gX4_compare_X4_get rfl rfl rfl (by decide +kernel) ⟨(Nat.le_of_ble_eq_true rfl), (Nat.le_of_ble_eq_true rfl)⟩) hT hI hA hS rfl hR.1 rfl rfl hl.1 (Nat.le_of_ble_eq_true rfl) dX4_compare_116 ⟨(Nat.le_of_ble_eq_true rfl), (Nat.le_of_ble_eq_true rfl)⟩ (fun r w_40 H locs hp_39 hI hS => ?_)
                  obtain ⟨rfl, rfl⟩ := hp_39
                  refine W.eq (g2 := F0 m 119 ls [.int (itv S (sPl S aj) t)]) rfl ?_
                  refine lv_aload_n hx hb dX4_compare_119 rfl (lv_at hl 0 rfl) ?_
                  refine lv_iload hx hb dX4_compare_120 (lv_at hl 2 rfl) ?_
                  refine lv_iload hx hb dX4_compare_122 (lv_at hl 3 rfl) ?_
                  refine ca_V (As := [.int (sPl S bj), .int (nI t)]) (rest := [.int (itv S (sPl S aj) t)]) (r0 := (RX4, TX4, 11)) (ci := 3) ⟨hx, hb, hml, hown, hts⟩ (cM_get l E A _ hrb (by have := hW.2.2.2; omega) (by omega) hR) (cwV 2 hts gX4_compare_X4_get rfl rfl rfl (by decide +kernel) ⟨(Nat.le_of_ble_eq_true rfl), (Nat.le_of_ble_eq_true rfl)⟩) hT hI hA hS rfl hR.1 rfl rfl hl.1 (Nat.le_of_ble_eq_true rfl) dX4_compare_124 ⟨(Nat.le_of_ble_eq_true rfl), (Nat.le_of_ble_eq_true rfl)⟩ (fun r w_42 H locs hp_41 hI hS => ?_)
                  obtain ⟨rfl, rfl⟩ := hp_41
                  refine W.eq (g2 := F0 m 127 ls [.int (itv S (sPl S bj) t), .int (itv S (sPl S aj) t)]) rfl ?_
                  refine lv_icmp_eq (tgt := 158) hx hb dX4_compare_127 (by decide) (fun c_43 => ?_) (fun c_43 => ?_)
                  · refine lv_iinc (v := nI (t + 1)) (lv' := [(5, .int (nI (t + 1))), (0, .ref (mH M)), (3, .int (sPl S aj)), (4, .int (sPl S bj))]) hx hb dX4_compare_158 hl (k := 3) rfl (nI_1 _) (by decide) rfl (fun ls hl => ?_)
                    refine lv_goto (tgt := 89) hx hb dX4_compare_161 (by decide) ?_
                    exact ih (t + 1) _ _ _ ⟨⟨by omega, by rw [hcm]; obtain ⟨d, hd⟩ : ∃ d, lnv S (sPl S aj) - t = d + 1 := ⟨lnv S (sPl S aj) - t - 1, by omega⟩; rw [hd, show lnv S (sPl S aj) - (t + 1) = d by omega]; simp only [cmpF]; rw [if_pos (by omega), if_pos c_43]⟩, hI, hS, lv_sub hl [1, 2, 3, 0] (rfl)⟩ (by omega)
                  · refine lv_aload_n hx hb dX4_compare_130 rfl (lv_at hl 0 rfl) ?_
                    refine lv_aload_n hx hb dX4_compare_131 rfl (lv_at hl 0 rfl) ?_
                    refine lv_iload_n hx hb dX4_compare_132 rfl (lv_at hl 1 rfl) ?_
                    refine lv_iload hx hb dX4_compare_133 (lv_at hl 3 rfl) ?_
                    refine ca_V (As := [.int (sPl S aj), .int (nI t)]) (rest := [.ref (mH M)]) (r0 := (RX4, TX4, 11)) (ci := 3) ⟨hx, hb, hml, hown, hts⟩ (cM_get l E A _ hra (by have := hW.2.2.2; omega) (by omega) hR) (cwV 2 hts gX4_compare_X4_get rfl rfl rfl (by decide +kernel) ⟨(Nat.le_of_ble_eq_true rfl), (Nat.le_of_ble_eq_true rfl)⟩) hT hI hA hS rfl hR.1 rfl rfl hl.1 (Nat.le_of_ble_eq_true rfl) dX4_compare_135 ⟨(Nat.le_of_ble_eq_true rfl), (Nat.le_of_ble_eq_true rfl)⟩ (fun r w_45 H locs hp_44 hI hS => ?_)
                    obtain ⟨rfl, rfl⟩ := hp_44
                    refine W.eq (g2 := F0 m 138 ls [.int (itv S (sPl S aj) t), .ref (mH M)]) rfl ?_
                    refine lv_aload_n hx hb dX4_compare_138 rfl (lv_at hl 0 rfl) ?_
                    refine lv_iload hx hb dX4_compare_139 (lv_at hl 2 rfl) ?_
                    refine lv_iload hx hb dX4_compare_141 (lv_at hl 3 rfl) ?_
                    refine ca_V (As := [.int (sPl S bj), .int (nI t)]) (rest := [.int (itv S (sPl S aj) t), .ref (mH M)]) (r0 := (RX4, TX4, 11)) (ci := 3) ⟨hx, hb, hml, hown, hts⟩ (cM_get l E A _ hrb (by have := hW.2.2.2; omega) (by omega) hR) (cwV 2 hts gX4_compare_X4_get rfl rfl rfl (by decide +kernel) ⟨(Nat.le_of_ble_eq_true rfl), (Nat.le_of_ble_eq_true rfl)⟩) hT hI hA hS rfl hR.1 rfl rfl hl.1 (Nat.le_of_ble_eq_true rfl) dX4_compare_143 ⟨(Nat.le_of_ble_eq_true rfl), (Nat.le_of_ble_eq_true rfl)⟩ (fun r w_47 H locs hp_46 hI hS => ?_)
                    obtain ⟨rfl, rfl⟩ := hp_46
                    refine W.eq (g2 := F0 m 146 ls [.int (itv S (sPl S bj) t), .int (itv S (sPl S aj) t), .ref (mH M)]) rfl ?_
                    refine lv_icmp_ge (tgt := 153) hx hb dX4_compare_146 (by decide) (fun c_48 => ?_) (fun c_48 => ?_)
                    · refine lv_iconst (v := 1) hx hb dX4_compare_153 (by decide) ?_
                      refine ca_V (As := [.int 1]) (rest := []) (r0 := (RX4, TX4, 11)) (ci := 3) ⟨hx, hb, hml, hown, hts⟩ (cc_X4_yes l E A _ 1 hR) (cwV 1 hts gX4_compare_X4_yes rfl rfl rfl (by decide +kernel) ⟨(Nat.le_of_ble_eq_true rfl), (Nat.le_of_ble_eq_true rfl)⟩) hT hI hA hS rfl hR.1 rfl rfl hl.1 (Nat.le_of_ble_eq_true rfl) dX4_compare_154 ⟨(Nat.le_of_ble_eq_true rfl), (Nat.le_of_ble_eq_true rfl)⟩ (fun r w_50 H locs hp_49 hI hS => ?_)
                      obtain ⟨rfl, hR⟩ := hp_49
                      refine W.eq (g2 := F0 m 157 ls [.int 1]) rfl ?_
                      exact re_i hx hb hr hlocks hT hA hS hI (PoM.of (by
                                                unfold sp_compare
                                                try simp only [pv_nI haj, pv_nI hbj]
                                                rw [if_neg ((fun q => q.elim ho_3 ho_6)), if_neg (fun q9 => q9.elim c_7 c_10), if_neg (fun q9 => q9.elim (not_not_intro c_13) (not_not_intro c_20))]
                                                rw [hcm]
                                                obtain ⟨d, hd⟩ : ∃ d, lnv S (sPl S aj) - t = d + 1 := ⟨lnv S (sPl S aj) - t - 1, by omega⟩
                                                rw [hd]; simp only [cmpF]; rw [if_pos (by omega), if_neg c_43, if_neg (Int32.not_lt.mpr c_48)]) hR) (Nat.le_of_ble_eq_true rfl) (Nat.le_of_ble_eq_true rfl) dX4_compare_157
                    · refine lv_iconst (v := -1) hx hb dX4_compare_149 (by decide) ?_
                      refine lv_goto (tgt := 154) hx hb dX4_compare_150 (by decide) ?_
                      refine ca_V (As := [.int (-1)]) (rest := []) (r0 := (RX4, TX4, 11)) (ci := 3) ⟨hx, hb, hml, hown, hts⟩ (cc_X4_yes l E A _ (-1) hR) (cwV 1 hts gX4_compare_X4_yes rfl rfl rfl (by decide +kernel) ⟨(Nat.le_of_ble_eq_true rfl), (Nat.le_of_ble_eq_true rfl)⟩) hT hI hA hS rfl hR.1 rfl rfl hl.1 (Nat.le_of_ble_eq_true rfl) dX4_compare_154 ⟨(Nat.le_of_ble_eq_true rfl), (Nat.le_of_ble_eq_true rfl)⟩ (fun r w_52 H locs hp_51 hI hS => ?_)
                      obtain ⟨rfl, hR⟩ := hp_51
                      refine W.eq (g2 := F0 m 157 ls [.int (-1)]) rfl ?_
                      exact re_i hx hb hr hlocks hT hA hS hI (PoM.of (by
                                                unfold sp_compare
                                                try simp only [pv_nI haj, pv_nI hbj]
                                                rw [if_neg ((fun q => q.elim ho_3 ho_6)), if_neg (fun q9 => q9.elim c_7 c_10), if_neg (fun q9 => q9.elim (not_not_intro c_13) (not_not_intro c_20))]
                                                rw [hcm]
                                                obtain ⟨d, hd⟩ : ∃ d, lnv S (sPl S aj) - t = d + 1 := ⟨lnv S (sPl S aj) - t - 1, by omega⟩
                                                rw [hd]; simp only [cmpF]; rw [if_pos (by omega), if_neg c_43, if_pos (Int32.not_le.mp c_48)]) hR) (Nat.le_of_ble_eq_true rfl) (Nat.le_of_ble_eq_true rfl) dX4_compare_157
            · refine lv_aload_n hx hb dX4_compare_65 rfl (lv_at hl 0 rfl) ?_
              refine lv_iconst (v := 5) hx hb dX4_compare_66 (by decide) ?_
              refine ca_V (As := [.int 5]) (rest := []) (r0 := (RX4, TX4, 11)) (ci := 3) ⟨hx, hb, hml, hown, hts⟩ (cc_X4_no l E A _ 5 hR) (cwV 1 hts gX4_compare_X4_no rfl rfl rfl (by decide +kernel) ⟨(Nat.le_of_ble_eq_true rfl), (Nat.le_of_ble_eq_true rfl)⟩) hT hI hA hS rfl hR.1 rfl rfl hl.1 (Nat.le_of_ble_eq_true rfl) dX4_compare_67 ⟨(Nat.le_of_ble_eq_true rfl), (Nat.le_of_ble_eq_true rfl)⟩ (fun r w_54 H locs hp_53 hI hS => ?_)
              obtain ⟨rfl, hR⟩ := hp_53
              refine W.eq (g2 := F0 m 70 ls [.int 0]) rfl ?_
              exact re_i hx hb hr hlocks hT hA hS hI (PoM.of (by
                                unfold sp_compare
                                try simp only [pv_nI haj, pv_nI hbj]
                                rw [if_neg ((fun q => q.elim ho_3 ho_6)), if_neg (fun q9 => q9.elim c_7 c_10), if_pos (Or.inr c_20)]
                                try rfl) hR) (Nat.le_of_ble_eq_true rfl) (Nat.le_of_ble_eq_true rfl) dX4_compare_70
        · refine lv_aload_n hx hb dX4_compare_37 rfl (lv_at hl 0 rfl) ?_
          refine lv_iconst (v := 1) hx hb dX4_compare_38 (by decide) ?_
          refine ca_V (As := [.int 1]) (rest := []) (r0 := (RX4, TX4, 11)) (ci := 3) ⟨hx, hb, hml, hown, hts⟩ (cc_X4_no l E A _ 1 hR) (cwV 1 hts gX4_compare_X4_no rfl rfl rfl (by decide +kernel) ⟨(Nat.le_of_ble_eq_true rfl), (Nat.le_of_ble_eq_true rfl)⟩) hT hI hA hS rfl hR.1 rfl rfl hl.1 (Nat.le_of_ble_eq_true rfl) dX4_compare_39 ⟨(Nat.le_of_ble_eq_true rfl), (Nat.le_of_ble_eq_true rfl)⟩ (fun r w_56 H locs hp_55 hI hS => ?_)
          obtain ⟨rfl, hR⟩ := hp_55
          refine W.eq (g2 := F0 m 42 ls [.int 0]) rfl ?_
          exact re_i hx hb hr hlocks hT hA hS hI (PoM.of (by
                        unfold sp_compare
                        try simp only [pv_nI haj, pv_nI hbj]
                        rw [if_neg ((fun q => q.elim ho_3 ho_6)), if_pos (Or.inr c_10)]
                        try rfl) hR) (Nat.le_of_ble_eq_true rfl) (Nat.le_of_ble_eq_true rfl) dX4_compare_42
    · have ho_6 : oP b := Classical.not_not.mp ho_6
      refine W.eq (g2 := F0 m 11 ls [.int 0]) rfl ?_
      refine lv_if_ne (tgt := 17) hx hb dX4_compare_11 (by decide) (fun c => absurd c (by decide)) (fun _ => ?_)
      refine lv_ldc (v := -2000000001) hx hb hown (hts (.constant RX4 54 (-2000000001)) (by decide +kernel)) dX4_compare_14 ?_
      exact re_i hx hb hr hlocks hT hA hS hI (PoM.of (by
                unfold sp_compare
                rw [if_pos (Or.inr (ho_6))]
                try rfl) hR) (Nat.le_of_ble_eq_true rfl) (Nat.le_of_ble_eq_true rfl) dX4_compare_16
  · have ho_3 : oP a := Classical.not_not.mp ho_3
    refine W.eq (g2 := F0 m 4 ls [.int 0]) rfl ?_
    refine lv_if_eq (tgt := 14) hx hb dX4_compare_4 (by decide) (fun _ => ?_) (fun c => absurd c (by decide))
    refine lv_ldc (v := -2000000001) hx hb hown (hts (.constant RX4 54 (-2000000001)) (by decide +kernel)) dX4_compare_14 ?_
    exact re_i hx hb hr hlocks hT hA hS hI (PoM.of (by
            unfold sp_compare
            rw [if_pos (Or.inl ho_3)]
            try rfl) hR) (Nat.le_of_ble_eq_true rfl) (Nat.le_of_ble_eq_true rfl) dX4_compare_16

set_option maxHeartbeats 4000000 in
set_option maxRecDepth 100000 in
theorem cc_X4_sum (l : Launch) (E : En) (A : Nat → Prop) (w : Wd) {S : Sx} {M : Md} {tt : Nat → Int32} (p : Int32) (hW : Wf S) (hR : Rm E S M tt w) (hb9 : sNr S < 512 ∧ sNt S < 512 ∧ sNl S < 512) : Ct l yX4_sum wsX4_sum ({ frames := 2, cells := 0, slots := 0, locals := 45 } : Room) E A w [.ref (mH M), .int p] (fun r w' => PoM E M (sp_sum S p) r w') 0 0 := by
  refine Met.ofW (cc := cX4_sum) (maxL := 6) (ret := (some .int)) (by decide) rfl ?_
  intro pp0 ee0 s m args below meth cc0 s₁ B hml hv
  obtain ⟨rfl, hT, hI, hA⟩ := hv
  have hx := B.exec
  have hb := B.bytes
  have hr := B.returns
  have hts := atoms_spec (ws := wsX4_sum) B.pre
  have hown : s.vm.findClass RX4 = some m.cls := findClass_of_methodNamed B.named
  have hlocks := B.notSynchronized
  have in_X4 : ∀ w ∈ wsX40, w ∈ wsX4_sum := by decide +kernel
  have hS : va_S A s.heap s.heap [] := va_S.rf
  have hl := lv_entry ([.ref (mH M), .int p]) (n := 6) (Nat.le_of_ble_eq_true rfl)
  rw [lg_entry_eq]
  generalize (lg_sl ([.ref (mH M), .int p]) ++ List.replicate (6 - (lg_sl ([.ref (mH M), .int p])).length) Slot.unset).toArray = ls at hl ⊢
  have hl : lv_has ls 6 [(0, .ref (mH M)), (1, .int p)] := hl
  refine lv_iload_n hx hb dX4_sum_0 rfl (lv_at hl 1 rfl) ?_
  refine ca_S (As := [.int p]) (rest := []) ⟨hx, hb, hml, hown, hts⟩ (cc_X4_isPlace l E A _ p) (va_cwS 1 hts gX4_sum_X4_isPlace rfl rfl rfl (by decide +kernel) ⟨(Nat.le_of_ble_eq_true rfl), (Nat.le_of_ble_eq_true rfl)⟩) hT hI hA hS rfl rfl hl.1 (Nat.le_of_ble_eq_true rfl) dX4_sum_1 ⟨(Nat.le_of_ble_eq_true rfl), (Nat.le_of_ble_eq_true rfl)⟩ (fun r w_2 H locs hp_1 hI hS => ?_)
  obtain ⟨rfl, ⟨ho_3, rfl⟩ | ⟨ho_3, rfl⟩⟩ := hp_1
  · refine W.eq (g2 := F0 m 4 ls [.int 1]) rfl ?_
    refine lv_if_ne (tgt := 10) hx hb dX4_sum_4 (by decide) (fun _ => ?_) (fun c => absurd c (by decide))
    obtain ⟨pj, hpj, rfl⟩ := isP_nat ho_3
    refine lv_aload_n hx hb dX4_sum_10 rfl (lv_at hl 0 rfl) ?_
    refine lv_iload_n hx hb dX4_sum_11 rfl (lv_at hl 1 rfl) ?_
    refine ca_V (As := [.int (nI pj)]) (rest := []) (r0 := (RX4, TX4, 11)) (ci := 3) ⟨hx, hb, hml, hown, hts⟩ (cc_X4_wantsRow l E A _ (by omega) hW hR) (cwV 1 hts gX4_sum_X4_wantsRow rfl rfl rfl (by decide +kernel) ⟨(Nat.le_of_ble_eq_true rfl), (Nat.le_of_ble_eq_true rfl)⟩) hT hI hA hS rfl hR.1 rfl rfl hl.1 (Nat.le_of_ble_eq_true rfl) dX4_sum_12 ⟨(Nat.le_of_ble_eq_true rfl), (Nat.le_of_ble_eq_true rfl)⟩ (fun r w_5 H locs hp_4 hI hS => ?_)
    obtain ⟨rfl, ⟨ez6, rfl⟩ | ⟨ez6, e66, rfl⟩ | ⟨ez6, hr6, rfl⟩⟩ := hp_4
    · refine W.eq (g2 := F0 m 15 ls [.int 1]) rfl ?_
      refine lv_istore_n (lv' := [(2, .int 1), (0, .ref (mH M)), (1, .int (nI pj))]) hx hb dX4_sum_15 rfl hl (by decide) rfl (fun ls hl => ?_)
      refine lv_iload_n hx hb dX4_sum_16 rfl (lv_at hl 0 rfl) ?_
      refine lv_if_ne (tgt := 31) hx hb dX4_sum_17 (by decide) (fun _ => ?_) (fun c => absurd c (by decide))
      refine lv_iload_n hx hb dX4_sum_31 rfl (lv_at hl 0 rfl) ?_
      refine lv_if_eq (tgt := 41) hx hb dX4_sum_32 (by decide) (fun c => absurd c (by decide)) (fun _ => ?_)
      refine lv_aload_n hx hb dX4_sum_35 rfl (lv_at hl 1 rfl) ?_
      refine lv_iload_n hx hb dX4_sum_36 rfl (lv_at hl 0 rfl) ?_
      refine ca_V (As := [.int 1]) (rest := []) (r0 := (RX4, TX4, 11)) (ci := 3) ⟨hx, hb, hml, hown, hts⟩ (cc_X4_no l E A _ 1 hR) (cwV 1 hts gX4_sum_X4_no rfl rfl rfl (by decide +kernel) ⟨(Nat.le_of_ble_eq_true rfl), (Nat.le_of_ble_eq_true rfl)⟩) hT hI hA hS rfl hR.1 rfl rfl hl.1 (Nat.le_of_ble_eq_true rfl) dX4_sum_37 ⟨(Nat.le_of_ble_eq_true rfl), (Nat.le_of_ble_eq_true rfl)⟩ (fun r w_8 H locs hp_7 hI hS => ?_)
      obtain ⟨rfl, hR⟩ := hp_7
      refine W.eq (g2 := F0 m 40 ls [.int 0]) rfl ?_
      exact re_i hx hb hr hlocks hT hA hS hI (PoM.of (by
                unfold sp_sum
                try simp only [pv_nI hpj]
                rw [if_neg (ho_3), if_pos (ez6)]
                try rfl) hR) (Nat.le_of_ble_eq_true rfl) (Nat.le_of_ble_eq_true rfl) dX4_sum_40
    · refine W.eq (g2 := F0 m 15 ls [.int 5]) rfl ?_
      refine lv_istore_n (lv' := [(2, .int 5), (0, .ref (mH M)), (1, .int (nI pj))]) hx hb dX4_sum_15 rfl hl (by decide) rfl (fun ls hl => ?_)
      refine lv_iload_n hx hb dX4_sum_16 rfl (lv_at hl 0 rfl) ?_
      refine lv_if_ne (tgt := 31) hx hb dX4_sum_17 (by decide) (fun _ => ?_) (fun c => absurd c (by decide))
      refine lv_iload_n hx hb dX4_sum_31 rfl (lv_at hl 0 rfl) ?_
      refine lv_if_eq (tgt := 41) hx hb dX4_sum_32 (by decide) (fun c => absurd c (by decide)) (fun _ => ?_)
      refine lv_aload_n hx hb dX4_sum_35 rfl (lv_at hl 1 rfl) ?_
      refine lv_iload_n hx hb dX4_sum_36 rfl (lv_at hl 0 rfl) ?_
      refine ca_V (As := [.int 5]) (rest := []) (r0 := (RX4, TX4, 11)) (ci := 3) ⟨hx, hb, hml, hown, hts⟩ (cc_X4_no l E A _ 5 hR) (cwV 1 hts gX4_sum_X4_no rfl rfl rfl (by decide +kernel) ⟨(Nat.le_of_ble_eq_true rfl), (Nat.le_of_ble_eq_true rfl)⟩) hT hI hA hS rfl hR.1 rfl rfl hl.1 (Nat.le_of_ble_eq_true rfl) dX4_sum_37 ⟨(Nat.le_of_ble_eq_true rfl), (Nat.le_of_ble_eq_true rfl)⟩ (fun r w_10 H locs hp_9 hI hS => ?_)
      obtain ⟨rfl, hR⟩ := hp_9
      refine W.eq (g2 := F0 m 40 ls [.int 0]) rfl ?_
      exact re_i hx hb hr hlocks hT hA hS hI (PoM.of (by
                unfold sp_sum
                try simp only [pv_nI hpj]
                rw [if_neg (ho_3), if_neg (ez6), if_pos (by rw [e66]; decide)]
                try rfl) hR) (Nat.le_of_ble_eq_true rfl) (Nat.le_of_ble_eq_true rfl) dX4_sum_40
    · have hln6 := hW.ln (Or.inl hr6)
      refine W.eq (g2 := F0 m 15 ls [.int 0]) rfl ?_
      refine lv_istore_n (lv' := [(2, .int 0), (0, .ref (mH M)), (1, .int (nI pj))]) hx hb dX4_sum_15 rfl hl (by decide) rfl (fun ls hl => ?_)
      refine lv_iload_n hx hb dX4_sum_16 rfl (lv_at hl 0 rfl) ?_
      refine lv_if_ne (tgt := 31) hx hb dX4_sum_17 (by decide) (fun c => absurd c (by decide)) (fun _ => ?_)
      refine lv_aload_n hx hb dX4_sum_20 rfl (lv_at hl 1 rfl) ?_
      refine lv_iload_n hx hb dX4_sum_21 rfl (lv_at hl 2 rfl) ?_
      refine ca_V (As := [.int (nI pj)]) (rest := []) (r0 := (RX4, TX4, 11)) (ci := 3) ⟨hx, hb, hml, hown, hts⟩ (cc_X4_kindOf l E A _ (by omega) hW hR) (cwV 1 hts gX4_sum_X4_kindOf rfl rfl rfl (by decide +kernel) ⟨(Nat.le_of_ble_eq_true rfl), (Nat.le_of_ble_eq_true rfl)⟩) hT hI hA hS rfl hR.1 rfl rfl hl.1 (Nat.le_of_ble_eq_true rfl) dX4_sum_22 ⟨(Nat.le_of_ble_eq_true rfl), (Nat.le_of_ble_eq_true rfl)⟩ (fun r w_12 H locs hp_11 hI hS => ?_)
      obtain ⟨rfl, rfl⟩ := hp_11
      rw [kp_ne ez6]
      refine W.eq (g2 := F0 m 25 ls [.int (kdv S (sPl S pj))]) rfl ?_
      refine lv_iconst (v := 2) hx hb dX4_sum_25 (by decide) ?_
      refine lv_icmp_le (tgt := 31) hx hb dX4_sum_26 (by decide) (fun c_13 => ?_) (fun c_13 => ?_)
      · refine lv_iload_n hx hb dX4_sum_31 rfl (lv_at hl 0 rfl) ?_
        refine lv_if_eq (tgt := 41) hx hb dX4_sum_32 (by decide) (fun _ => ?_) (fun c => absurd c (by decide))
        refine lv_aload_n hx hb dX4_sum_41 rfl (lv_at hl 1 rfl) ?_
        refine wr_get (ci := 3) (C := RX4) (T := TX4) (N := 11) (v := .ref (mP M)) hx hb hts in_X4 hown hT hI hR.1 rfl 1 (by decide) (hts (.fieldLink RX4 7 "CopyRowsModel" "places" "[I") (by decide +kernel)) rfl dX4_sum_42 ?_
        refine lv_iload_n hx hb dX4_sum_45 rfl (lv_at hl 2 rfl) ?_
        refine wr_ialdN (t := pj) (n := 12) (f := plF S) hx hb hT hI hR.2.1 (by omega) (by omega) dX4_sum_46 ?_
        refine W.eq (g2 := F0 m 47 ls [.int (sPl S pj)]) (by rw [plF_at (by omega)]) ?_
        refine lv_istore_n (lv' := [(3, .int (sPl S pj)), (2, .int 0), (0, .ref (mH M)), (1, .int (nI pj))]) hx hb dX4_sum_47 rfl hl (by decide) rfl (fun ls hl => ?_)
        refine lv_aload_n hx hb dX4_sum_48 rfl (lv_at hl 2 rfl) ?_
        refine wr_get (ci := 3) (C := RX4) (T := TX4) (N := 11) (v := .ref (mK M)) hx hb hts in_X4 hown hT hI hR.1 rfl 3 (by decide) (hts (.fieldLink RX4 13 "CopyRowsModel" "kinds" "[I") (by decide +kernel)) rfl dX4_sum_49 ?_
        refine lv_iload_n hx hb dX4_sum_52 rfl (lv_at hl 0 rfl) ?_
        refine W.eq (g2 := F0 m 53 ls [.int (nI (ix (sPl S pj))), .ref (mK M)]) (by rw [nI_ix hr6.1]) ?_
        refine wr_ialdN (t := ix (sPl S pj)) (n := 520) (f := sKd S) hx hb hT hI hR.2.2.1 (by have h9 := hr6.2; have h8 := hW.2.2.2; omega) (by omega) dX4_sum_53 ?_
        refine W.eq (g2 := F0 m 54 ls [.int (kdv S (sPl S pj))]) (by rw [kdv_r hr6]) ?_
        refine lv_iconst (v := 2) hx hb dX4_sum_54 (by decide) ?_
        refine lv_icmp_ge (tgt := 68) hx hb dX4_sum_55 (by decide) (fun c_14 => ?_) (fun c_14 => ?_)
        · have c_14 : kdv S (sPl S pj) = 2 := ((le2 hW (Or.inl hr6)).mp c_13).resolve_left (fun q9 => Int32.not_lt.mpr c_14 ((lt2 (hW.kd (Or.inl hr6))).mpr q9))
          refine lv_iconst (v := 0) hx hb dX4_sum_68 (by decide) ?_
          refine lv_istore (lv' := [(4, .int 0), (3, .int (sPl S pj)), (2, .int 0), (0, .ref (mH M)), (1, .int (nI pj))]) hx hb dX4_sum_69 hl (by decide) rfl (fun ls hl => ?_)
          refine lv_iconst (v := 0) hx hb dX4_sum_71 (by decide) ?_
          refine lv_istore (lv' := [(5, .int 0), (4, .int 0), (3, .int (sPl S pj)), (2, .int 0), (0, .ref (mH M)), (1, .int (nI pj))]) hx hb dX4_sum_72 hl (by decide) rfl (fun ls hl => ?_)
          refine lp_w (ι := Nat × Int32) (fun q9 => lnv S (sPl S pj) - q9.1) (fun q9 H locs ls => (q9.1 ≤ lnv S (sPl S pj) ∧ smT S (itv S (sPl S pj)) (lnv S (sPl S pj)) 0 0 = smT S (itv S (sPl S pj)) (lnv S (sPl S pj) - q9.1) q9.1 q9.2) ∧ Hv E A w H ∧ va_S A s.heap H locs ∧ lv_has ls 6 [(0, .ref (mH M)), (3, .int (sPl S pj)), (4, .int q9.2), (5, .int (nI q9.1))]) ?_ (0, 0) _ _ _ ⟨⟨Nat.zero_le _, rfl⟩, hI, hS, lv_sub hl [4, 2, 1, 0] rfl⟩
          rintro ⟨t, acc⟩ H locs ls ⟨⟨ht, hsm⟩, hI, hS, hl⟩ ih
          dsimp only at ht hsm hl
          refine lv_iload hx hb dX4_sum_74 (lv_at hl 3 rfl) ?_
          refine lv_aload_n hx hb dX4_sum_76 rfl (lv_at hl 0 rfl) ?_
          refine wr_get (ci := 3) (C := RX4) (T := TX4) (N := 11) (v := .ref (mL M)) hx hb hts in_X4 hown hT hI hR.1 rfl 4 (by decide) (hts (.fieldLink RX4 16 "CopyRowsModel" "lengths" "[I") (by decide +kernel)) rfl dX4_sum_77 ?_
          refine lv_iload_n hx hb dX4_sum_80 rfl (lv_at hl 1 rfl) ?_
          refine W.eq (g2 := F0 m 81 ls [.int (nI (ix (sPl S pj))), .ref (mL M), .int (nI t)]) (by rw [nI_ix hr6.1]) ?_
          refine wr_ialdN (t := ix (sPl S pj)) (n := 520) (f := lnF S) hx hb hT hI hR.2.2.2.1 (by have h9 := hr6.2; have h8 := hW.2.2.2; omega) (by omega) dX4_sum_81 ?_
          refine W.eq (g2 := F0 m 82 ls [.int (nI (lnv S (sPl S pj))), .int (nI t)]) (by rw [lnv_r hr6]; rfl) ?_
          refine lv_icmp_ge (tgt := 124) hx hb dX4_sum_82 (by decide) (fun c_15 => ?_) (fun c_15 => ?_)
          · have c_15 : lnv S (sPl S pj) ≤ t := (nI_leI (a := lnv S (sPl S pj)) (b := t) (by omega) (by omega)).mp c_15
            refine lv_aload_n hx hb dX4_sum_124 rfl (lv_at hl 0 rfl) ?_
            refine lv_iload hx hb dX4_sum_125 (lv_at hl 2 rfl) ?_
            refine ca_V (As := [.int acc]) (rest := []) (r0 := (RX4, TX4, 11)) (ci := 3) ⟨hx, hb, hml, hown, hts⟩ (cc_X4_yes l E A _ acc hR) (cwV 1 hts gX4_sum_X4_yes rfl rfl rfl (by decide +kernel) ⟨(Nat.le_of_ble_eq_true rfl), (Nat.le_of_ble_eq_true rfl)⟩) hT hI hA hS rfl hR.1 rfl rfl hl.1 (Nat.le_of_ble_eq_true rfl) dX4_sum_127 ⟨(Nat.le_of_ble_eq_true rfl), (Nat.le_of_ble_eq_true rfl)⟩ (fun r w_17 H locs hp_16 hI hS => ?_)
            obtain ⟨rfl, hR⟩ := hp_16
            refine W.eq (g2 := F0 m 130 ls [.int acc]) rfl ?_
            exact re_i hx hb hr hlocks hT hA hS hI (PoM.of (by
                            unfold sp_sum
                            try simp only [pv_nI hpj]
                            rw [if_neg (ho_3), if_neg (ez6), if_neg (not_not_intro ((le2 hW (Or.inl hr6)).mp c_13)), if_pos (c_14)]
                            rw [hsm, show lnv S (sPl S pj) - t = 0 by omega]
                            rfl) hR) (Nat.le_of_ble_eq_true rfl) (Nat.le_of_ble_eq_true rfl) dX4_sum_130
          · have c_15 : ¬ lnv S (sPl S pj) ≤ t := fun q => c_15 ((nI_leI (a := lnv S (sPl S pj)) (b := t) (by omega) (by omega)).mpr q)
            refine lv_aload_n hx hb dX4_sum_85 rfl (lv_at hl 0 rfl) ?_
            refine lv_iload_n hx hb dX4_sum_86 rfl (lv_at hl 1 rfl) ?_
            refine lv_iload hx hb dX4_sum_87 (lv_at hl 3 rfl) ?_
            refine ca_V (As := [.int (sPl S pj), .int (nI t)]) (rest := []) (r0 := (RX4, TX4, 11)) (ci := 3) ⟨hx, hb, hml, hown, hts⟩ (cM_get l E A _ hr6 (by have := hW.2.2.2; omega) (by omega) hR) (cwV 2 hts gX4_sum_X4_get rfl rfl rfl (by decide +kernel) ⟨(Nat.le_of_ble_eq_true rfl), (Nat.le_of_ble_eq_true rfl)⟩) hT hI hA hS rfl hR.1 rfl rfl hl.1 (Nat.le_of_ble_eq_true rfl) dX4_sum_89 ⟨(Nat.le_of_ble_eq_true rfl), (Nat.le_of_ble_eq_true rfl)⟩ (fun r w_19 H locs hp_18 hI hS => ?_)
            obtain ⟨rfl, rfl⟩ := hp_18
            refine W.eq (g2 := F0 m 92 ls [.int (itv S (sPl S pj) t)]) rfl ?_
            refine lv_iconst (v := -1) hx hb dX4_sum_92 (by decide) ?_
            refine lv_icmp_ne (tgt := 102) hx hb dX4_sum_93 (by decide) (fun c_20 => ?_) (fun c_20 => ?_)
            · have hx9 := (((hW.row hr6).2.2.1 c_14 t).resolve_left c_20).1
              refine lv_iload hx hb dX4_sum_102 (lv_at hl 2 rfl) ?_
              refine lv_aload_n hx hb dX4_sum_104 rfl (lv_at hl 0 rfl) ?_
              refine lv_aload_n hx hb dX4_sum_105 rfl (lv_at hl 0 rfl) ?_
              refine lv_iload_n hx hb dX4_sum_106 rfl (lv_at hl 1 rfl) ?_
              refine lv_iload hx hb dX4_sum_107 (lv_at hl 3 rfl) ?_
              refine ca_V (As := [.int (sPl S pj), .int (nI t)]) (rest := [.ref (mH M), .int acc]) (r0 := (RX4, TX4, 11)) (ci := 3) ⟨hx, hb, hml, hown, hts⟩ (cM_get l E A _ hr6 (by have := hW.2.2.2; omega) (by omega) hR) (cwV 2 hts gX4_sum_X4_get rfl rfl rfl (by decide +kernel) ⟨(Nat.le_of_ble_eq_true rfl), (Nat.le_of_ble_eq_true rfl)⟩) hT hI hA hS rfl hR.1 rfl rfl hl.1 (Nat.le_of_ble_eq_true rfl) dX4_sum_109 ⟨(Nat.le_of_ble_eq_true rfl), (Nat.le_of_ble_eq_true rfl)⟩ (fun r w_22 H locs hp_21 hI hS => ?_)
              obtain ⟨rfl, rfl⟩ := hp_21
              refine W.eq (g2 := F0 m 112 ls [.int (itv S (sPl S pj) t), .ref (mH M), .int acc]) rfl ?_
              refine ca_V (As := [.int (itv S (sPl S pj) t)]) (rest := [.int acc]) (r0 := (RX4, TX4, 11)) (ci := 3) ⟨hx, hb, hml, hown, hts⟩ (cM_sumOf l E A _ hx9 hW hR) (cwV 1 hts gX4_sum_X4_sumOf rfl rfl rfl (by decide +kernel) ⟨(Nat.le_of_ble_eq_true rfl), (Nat.le_of_ble_eq_true rfl)⟩) hT hI hA hS rfl hR.1 rfl rfl hl.1 (Nat.le_of_ble_eq_true rfl) dX4_sum_112 ⟨(Nat.le_of_ble_eq_true rfl), (Nat.le_of_ble_eq_true rfl)⟩ (fun r w_24 H locs hp_23 hI hS => ?_)
              obtain ⟨rfl, rfl⟩ := hp_23
              refine W.eq (g2 := F0 m 115 ls [.int (sumF (itv S (itv S (sPl S pj) t)) (lnv S (itv S (sPl S pj) t))), .int acc]) rfl ?_
              refine lv_iadd hx hb dX4_sum_115 ?_
              refine lv_istore (lv' := [(4, .int (acc + (sumF (itv S (itv S (sPl S pj) t)) (lnv S (itv S (sPl S pj) t))))), (0, .ref (mH M)), (3, .int (sPl S pj)), (5, .int (nI t))]) hx hb dX4_sum_116 hl (by decide) rfl (fun ls hl => ?_)
              refine lv_iinc (v := nI (t + 1)) (lv' := [(5, .int (nI (t + 1))), (4, .int (acc + (sumF (itv S (itv S (sPl S pj) t)) (lnv S (itv S (sPl S pj) t))))), (0, .ref (mH M)), (3, .int (sPl S pj))]) hx hb dX4_sum_118 hl (k := 3) rfl (nI_1 _) (by decide) rfl (fun ls hl => ?_)
              refine lv_goto (tgt := 74) hx hb dX4_sum_121 (by decide) ?_
              refine ih (t + 1, acc + sumF (itv S (itv S (sPl S pj) t)) (lnv S (itv S (sPl S pj) t))) _ _ _ ⟨⟨by show t + 1 ≤ lnv S (sPl S pj); omega, ?_⟩, hI, hS, lv_sub hl [2, 3, 1, 0] rfl⟩ (by show lnv S (sPl S pj) - (t + 1) < lnv S (sPl S pj) - t; omega)
              show smT _ _ _ 0 0 = smT _ _ (lnv S (sPl S pj) - (t + 1)) (t + 1) _
              rw [hsm]
              obtain ⟨d9, hd9⟩ : ∃ d9, lnv S (sPl S pj) - t = d9 + 1 := ⟨lnv S (sPl S pj) - t - 1, by omega⟩
              rw [hd9, show lnv S (sPl S pj) - (t + 1) = d9 by omega]
              simp only [smT]
              rw [if_neg c_20]
            · refine lv_aload_n hx hb dX4_sum_96 rfl (lv_at hl 0 rfl) ?_
              refine lv_iconst (v := 1) hx hb dX4_sum_97 (by decide) ?_
              refine ca_V (As := [.int 1]) (rest := []) (r0 := (RX4, TX4, 11)) (ci := 3) ⟨hx, hb, hml, hown, hts⟩ (cc_X4_no l E A _ 1 hR) (cwV 1 hts gX4_sum_X4_no rfl rfl rfl (by decide +kernel) ⟨(Nat.le_of_ble_eq_true rfl), (Nat.le_of_ble_eq_true rfl)⟩) hT hI hA hS rfl hR.1 rfl rfl hl.1 (Nat.le_of_ble_eq_true rfl) dX4_sum_98 ⟨(Nat.le_of_ble_eq_true rfl), (Nat.le_of_ble_eq_true rfl)⟩ (fun r w_26 H locs hp_25 hI hS => ?_)
              obtain ⟨rfl, hR⟩ := hp_25
              refine W.eq (g2 := F0 m 101 ls [.int 0]) rfl ?_
              exact re_i hx hb hr hlocks hT hA hS hI (PoM.of (by
                                unfold sp_sum
                                try simp only [pv_nI hpj]
                                rw [if_neg (ho_3), if_neg (ez6), if_neg (not_not_intro ((le2 hW (Or.inl hr6)).mp c_13)), if_pos (c_14)]
                                rw [hsm]
                                obtain ⟨d9, hd9⟩ : ∃ d9, lnv S (sPl S pj) - t = d9 + 1 := ⟨lnv S (sPl S pj) - t - 1, by omega⟩
                                rw [hd9]
                                simp only [smT]
                                rw [if_pos c_20]) hR) (Nat.le_of_ble_eq_true rfl) (Nat.le_of_ble_eq_true rfl) dX4_sum_101
        · have c_14 : ¬ kdv S (sPl S pj) = 2 := (isN_lt ((lt2 (hW.kd (Or.inl hr6))).mp (Int32.not_le.mp c_14))).2
          refine lv_aload_n hx hb dX4_sum_58 rfl (lv_at hl 2 rfl) ?_
          refine lv_aload_n hx hb dX4_sum_59 rfl (lv_at hl 2 rfl) ?_
          refine lv_iload_n hx hb dX4_sum_60 rfl (lv_at hl 0 rfl) ?_
          refine ca_V (As := [.int (sPl S pj)]) (rest := [.ref (mH M)]) (r0 := (RX4, TX4, 11)) (ci := 3) ⟨hx, hb, hml, hown, hts⟩ (cM_sumOf l E A _ hr6 hW hR) (cwV 1 hts gX4_sum_X4_sumOf rfl rfl rfl (by decide +kernel) ⟨(Nat.le_of_ble_eq_true rfl), (Nat.le_of_ble_eq_true rfl)⟩) hT hI hA hS rfl hR.1 rfl rfl hl.1 (Nat.le_of_ble_eq_true rfl) dX4_sum_61 ⟨(Nat.le_of_ble_eq_true rfl), (Nat.le_of_ble_eq_true rfl)⟩ (fun r w_28 H locs hp_27 hI hS => ?_)
          obtain ⟨rfl, rfl⟩ := hp_27
          refine W.eq (g2 := F0 m 64 ls [.int (sumF (itv S (sPl S pj)) (lnv S (sPl S pj))), .ref (mH M)]) rfl ?_
          refine ca_V (As := [.int (sumF (itv S (sPl S pj)) (lnv S (sPl S pj)))]) (rest := []) (r0 := (RX4, TX4, 11)) (ci := 3) ⟨hx, hb, hml, hown, hts⟩ (cc_X4_yes l E A _ (sumF (itv S (sPl S pj)) (lnv S (sPl S pj))) hR) (cwV 1 hts gX4_sum_X4_yes rfl rfl rfl (by decide +kernel) ⟨(Nat.le_of_ble_eq_true rfl), (Nat.le_of_ble_eq_true rfl)⟩) hT hI hA hS rfl hR.1 rfl rfl hl.1 (Nat.le_of_ble_eq_true rfl) dX4_sum_64 ⟨(Nat.le_of_ble_eq_true rfl), (Nat.le_of_ble_eq_true rfl)⟩ (fun r w_30 H locs hp_29 hI hS => ?_)
          obtain ⟨rfl, hR⟩ := hp_29
          refine W.eq (g2 := F0 m 67 ls [.int (sumF (itv S (sPl S pj)) (lnv S (sPl S pj)))]) rfl ?_
          exact re_i hx hb hr hlocks hT hA hS hI (PoM.of (by
                        unfold sp_sum
                        try simp only [pv_nI hpj]
                        rw [if_neg (ho_3), if_neg (ez6), if_neg (not_not_intro ((le2 hW (Or.inl hr6)).mp c_13)), if_neg (c_14)]
                        try rfl) hR) (Nat.le_of_ble_eq_true rfl) (Nat.le_of_ble_eq_true rfl) dX4_sum_67
      · refine lv_iconst (v := 5) hx hb dX4_sum_29 (by decide) ?_
        refine lv_istore_n (lv' := [(2, .int 5), (0, .ref (mH M)), (1, .int (nI pj))]) hx hb dX4_sum_30 rfl hl (by decide) rfl (fun ls hl => ?_)
        refine lv_iload_n hx hb dX4_sum_31 rfl (lv_at hl 0 rfl) ?_
        refine lv_if_eq (tgt := 41) hx hb dX4_sum_32 (by decide) (fun c => absurd c (by decide)) (fun _ => ?_)
        refine lv_aload_n hx hb dX4_sum_35 rfl (lv_at hl 1 rfl) ?_
        refine lv_iload_n hx hb dX4_sum_36 rfl (lv_at hl 0 rfl) ?_
        refine ca_V (As := [.int 5]) (rest := []) (r0 := (RX4, TX4, 11)) (ci := 3) ⟨hx, hb, hml, hown, hts⟩ (cc_X4_no l E A _ 5 hR) (cwV 1 hts gX4_sum_X4_no rfl rfl rfl (by decide +kernel) ⟨(Nat.le_of_ble_eq_true rfl), (Nat.le_of_ble_eq_true rfl)⟩) hT hI hA hS rfl hR.1 rfl rfl hl.1 (Nat.le_of_ble_eq_true rfl) dX4_sum_37 ⟨(Nat.le_of_ble_eq_true rfl), (Nat.le_of_ble_eq_true rfl)⟩ (fun r w_32 H locs hp_31 hI hS => ?_)
        obtain ⟨rfl, hR⟩ := hp_31
        refine W.eq (g2 := F0 m 40 ls [.int 0]) rfl ?_
        exact re_i hx hb hr hlocks hT hA hS hI (PoM.of (by
                    unfold sp_sum
                    try simp only [pv_nI hpj]
                    rw [if_neg (ho_3), if_neg (ez6), if_pos (fun q9 => c_13 ((le2 hW (Or.inl hr6)).mpr q9))]
                    try rfl) hR) (Nat.le_of_ble_eq_true rfl) (Nat.le_of_ble_eq_true rfl) dX4_sum_40
  · have ho_3 : oP p := Classical.not_not.mp ho_3
    refine W.eq (g2 := F0 m 4 ls [.int 0]) rfl ?_
    refine lv_if_ne (tgt := 10) hx hb dX4_sum_4 (by decide) (fun c => absurd c (by decide)) (fun _ => ?_)
    refine lv_ldc (v := -2000000001) hx hb hown (hts (.constant RX4 54 (-2000000001)) (by decide +kernel)) dX4_sum_7 ?_
    exact re_i hx hb hr hlocks hT hA hS hI (PoM.of (by
            unfold sp_sum
            rw [if_pos (ho_3)]
            try rfl) hR) (Nat.le_of_ble_eq_true rfl) (Nat.le_of_ble_eq_true rfl) dX4_sum_9
