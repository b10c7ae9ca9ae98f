/-! more words for the walks of the calls -/
theorem le40_nat {n : Int32} (h0 : 0 ≤ n) (h : n ≤ 40) : ∃ j : Nat, j ≤ 40 ∧ n = nI j := by
  obtain ⟨j, hj, rfl⟩ := nI_of (Int32.not_lt.mpr h0)
  exact ⟨j, (nI_leI hj (by decide : 40 < 2 ^ 31)).mp h, rfl⟩
theorem ini_n {k : Int32} (h : isN k) : ini k = fun _ => 0 := by unfold ini; rw [if_pos h]
theorem ini_p {k : Int32} (h : ¬ isN k) : ini k = fun _ => -1 := by unfold ini; rw [if_neg h]
theorem NewRow.n {E : En} {w w' : Wd} {q na qa : Nat} {kd : Int32} {n : Nat} {f : Nat → Int32} {D : Ad} (hk : isN kd) (h : NewRow E w w' q na qa kd n n f 0 (fun _ => none)) : NewRow E w w' q na qa kd n (nz kd n) (if isN kd then f else fun _ => 0) (pz kd n) (if isN kd then fun _ => none else fun k => pO D kd (f k)) := by
  rw [show nz kd n = n from if_pos hk, show pz kd n = 0 from if_pos hk, if_pos hk, if_pos hk]
  exact h
theorem NewRow.p {E : En} {w w' : Wd} {q na qa : Nat} {kd : Int32} {n : Nat} {f : Nat → Int32} {g : Nat → Option Nat} {D : Ad} (hk : ¬ isN kd) (hg : g = fun k => pO D kd (f k)) (h : NewRow E w w' q na qa kd n 0 (fun _ => 0) n g) : NewRow E w w' q na qa kd n (nz kd n) (if isN kd then f else fun _ => 0) (pz kd n) (if isN kd then fun _ => none else fun k => pO D kd (f k)) := by
  rw [show nz kd n = 0 from if_neg hk, show pz kd n = n from if_neg hk, if_neg hk, if_neg hk, ← hg]
  exact h
theorem pO_m1 {D : Ad} {kd : Int32} : pO D kd (-1) = none := if_pos rfl
theorem Rp.numW {E : En} {S : Sx} {D : Ad} {w : Wd} (h : Rp E S D w) {v : Int32} (hv : vR S v) (hk : isN (kdv S v)) (f : Nat → Int32) : Rp E (uRow S (ix v) f) D (va_up w (aN D v) (some (eI E (lnv S v) f))) := by
  have q := h.numbers hv hk f
  rwa [show nz (kdv S v) (lnv S v) = lnv S v from if_pos hk] at q
theorem Rp.parW {E : En} {S : Sx} {D : Ad} {w : Wd} (h : Rp E S D w) {v : Int32} (hv : vR S v) (hk : ¬ isN (kdv S v)) (f : Nat → Int32) {g : Nat → Option Nat} (hg : g = fun k => pO D (kdv S v) (f k)) : Rp E (uRow S (ix v) f) D (va_up w (aQ D v) (some (eP E (lnv S v) g))) := by
  have q := h.parts hv hk f hg
  rwa [show pz (kdv S v) (lnv S v) = lnv S v from if_neg hk] at q
theorem pO_upd {D : Ad} {kd x : Int32} {f : Nat → Int32} {j : Nat} {o : Option Nat} (ho : pO D kd x = o) : va_up (fun k => pO D kd (f k)) j o = fun k => pO D kd (upd f j x k) := by
  funext k
  by_cases h : k = j
  · subst h; simp [va_up, upd, ho]
  · simp [va_up, upd, h]
theorem pO_row {D : Ad} {x : Int32} (h : ¬ x = -1) : pO D 2 x = some (aR D x) := by unfold pO; rw [if_neg h, if_pos rfl]
theorem pO_th {D : Ad} {kd x : Int32} (h : ¬ x = -1) (hk : ¬ kd = 2) : pO D kd x = some (aT D x) := by unfold pO; rw [if_neg h, if_neg hk]
theorem adT_self {D : Ad} {v : Int32} {q : Nat} : aT (adT D v q) v = q := if_pos rfl
theorem kT_ne2 {k : Int32} (h : kT k) : ¬ k = 2 := by rcases h with h | h | h <;> rw [h] <;> decide
theorem neg1_le {c : Int32} (h : ¬ c < -1) (h2 : ¬ c = -1) : ¬ c < 0 := by
  rw [Int32.lt_iff_toInt_lt] at h ⊢
  have a : (-1 : Int32).toInt = -1 := by decide
  have b : (0 : Int32).toInt = 0 := by decide
  rw [a] at h
  rw [b]
  have c1 : c.toInt ≠ -1 := fun q => h2 (Int32.toInt_inj.mp (q.trans a.symm))
  omega
set_option maxHeartbeats 4000000 in
set_option maxRecDepth 100000 in
theorem cc_X3_make (l : Launch) (E : En) (A : Nat → Prop) (w : Wd) {S : Sx} {D : Ad} (p k n : Int32) (hW : Wf S) (hR : Rp E S D w) (hb9 : sNr S < 512 ∧ sNt S < 512 ∧ sNl S < 512) : Ct l yX3_make wsX3_make ({ frames := 3, cells := 3, slots := 44, locals := 63 } : Room) E A w [.ref (aH D), .int p, .int k, .int n] (fun r w' => PoC E D (sp_make S p k n) r w') 3 44 := by
  refine Met.ofW (cc := cX3_make) (maxL := 4) (ret := (some .int)) (by decide) rfl ?_
  intro pp0 ee0 s m args below meth cc0 s₁ B hml hv
  obtain ⟨rfl, hT, hI, hA⟩ := hv
  have hx := B.exec
  have hb := B.bytes
  have hr := B.returns
  have hts := atoms_spec (ws := wsX3_make) B.pre
  have hown : s.vm.findClass RX3 = some m.cls := findClass_of_methodNamed B.named
  have hlocks := B.notSynchronized
  have in_X1 : ∀ w ∈ wsX10, w ∈ wsX3_make := by decide +kernel
  have hS : va_S A s.heap s.heap [] := va_S.rf
  have hl := lv_entry ([.ref (aH D), .int p, .int k, .int n]) (n := 4) (Nat.le_of_ble_eq_true rfl)
  rw [lg_entry_eq]
  generalize (lg_sl ([.ref (aH D), .int p, .int k, .int n]) ++ List.replicate (4 - (lg_sl ([.ref (aH D), .int p, .int k, .int n])).length) Slot.unset).toArray = ls at hl ⊢
  have hl : lv_has ls 4 [(0, .ref (aH D)), (1, .int p), (2, .int k), (3, .int n)] := hl
  refine lv_iload_n hx hb dX3_make_0 rfl (lv_at hl 1 rfl) ?_
  refine ca_S (As := [.int p]) (rest := []) ⟨hx, hb, hml, hown, hts⟩ (cc_X3_isOutside l E A _ p) (va_cwS 1 hts gX3_make_X3_isOutside rfl rfl rfl (by decide +kernel) ⟨(Nat.le_of_ble_eq_true rfl), (Nat.le_of_ble_eq_true rfl)⟩) hT hI hA hS rfl rfl hl.1 (Nat.le_of_ble_eq_true rfl) dX3_make_1 ⟨(Nat.le_of_ble_eq_true rfl), (Nat.le_of_ble_eq_true rfl)⟩ (fun r w_2 H locs hp_1 hI hS => ?_)
  obtain ⟨rfl, ⟨ho_3, rfl⟩ | ⟨ho_3, rfl⟩⟩ := hp_1
  · refine W.eq (g2 := F0 m 4 ls [.int 1]) rfl ?_
    refine lv_if_ne (tgt := 22) hx hb dX3_make_4 (by decide) (fun _ => ?_) (fun c => absurd c (by decide))
    refine lv_ldc (v := -2000000001) hx hb hown (hts (.constant RX3 23 (-2000000001)) (by decide +kernel)) dX3_make_22 ?_
    exact re_i hx hb hr hlocks hT hA hS hI (PoC.of (by
            unfold sp_make
            rw [if_pos (Or.inl ho_3)]) hR rfl) (Nat.le_of_ble_eq_true rfl) (Nat.le_of_ble_eq_true rfl) dX3_make_24
  · refine W.eq (g2 := F0 m 4 ls [.int 0]) rfl ?_
    refine lv_if_ne (tgt := 22) hx hb dX3_make_4 (by decide) (fun c => absurd c (by decide)) (fun _ => ?_)
    refine lv_iload_n hx hb dX3_make_7 rfl (lv_at hl 2 rfl) ?_
    refine lv_if_lt (tgt := 22) hx hb dX3_make_8 (by decide) (fun c_4 => ?_) (fun c_4 => ?_)
    · refine lv_ldc (v := -2000000001) hx hb hown (hts (.constant RX3 23 (-2000000001)) (by decide +kernel)) dX3_make_22 ?_
      exact re_i hx hb hr hlocks hT hA hS hI (PoC.of (by
                unfold sp_make
                rw [if_pos (Or.inr (Or.inl c_4))]) hR rfl) (Nat.le_of_ble_eq_true rfl) (Nat.le_of_ble_eq_true rfl) dX3_make_24
    · refine lv_iload_n hx hb dX3_make_11 rfl (lv_at hl 2 rfl) ?_
      refine lv_iconst (v := 5) hx hb dX3_make_12 (by decide) ?_
      refine lv_icmp_gt (tgt := 22) hx hb dX3_make_13 (by decide) (fun c_5 => ?_) (fun c_5 => ?_)
      · refine lv_ldc (v := -2000000001) hx hb hown (hts (.constant RX3 23 (-2000000001)) (by decide +kernel)) dX3_make_22 ?_
        exact re_i hx hb hr hlocks hT hA hS hI (PoC.of (by
                    unfold sp_make
                    rw [if_pos (Or.inr (Or.inr (Or.inl c_5)))]) hR rfl) (Nat.le_of_ble_eq_true rfl) (Nat.le_of_ble_eq_true rfl) dX3_make_24
      · refine lv_iload_n hx hb dX3_make_16 rfl (lv_at hl 3 rfl) ?_
        refine lv_bipush (v := 40) hx hb dX3_make_17 (by decide) ?_
        refine lv_icmp_le (tgt := 25) hx hb dX3_make_19 (by decide) (fun c_6 => ?_) (fun c_6 => ?_)
        · refine lv_iload_n hx hb dX3_make_25 rfl (lv_at hl 3 rfl) ?_
          refine lv_if_ge (tgt := 35) hx hb dX3_make_26 (by decide) (fun c_7 => ?_) (fun c_7 => ?_)
          · obtain ⟨pj, hpj, rfl⟩ := isP_nat ho_3
            obtain ⟨nj, hnj, rfl⟩ := le40_nat c_7 c_6
            by_cases hkn : isN k
            · refine lv_aload_n hx hb dX3_make_35 rfl (lv_at hl 0 rfl) ?_
              refine lv_iload_n hx hb dX3_make_36 rfl (lv_at hl 1 rfl) ?_
              refine wr_new (ci := 0) (fs := [.int 0, .int 0, .null, .null]) (C := RX1) (T := TX1) (N := 4) hx hb hts in_X1 tyX1 tyX1_ok hown (hts (.classLink RX3 9 RX1) (by decide +kernel)) (hts (.instantiable RX1 4) (by decide +kernel)) (hts (.initialized RX1) (by decide +kernel)) hT hI hS hA rfl (fun j hj => by rcases (show j = 0 ∨ j = 1 ∨ j = 2 ∨ j = 3 by omega) with rfl | rfl | rfl | rfl <;> rfl) (Nat.le_of_ble_eq_true rfl) (Nat.le_of_ble_eq_true rfl) dX3_make_37 (fun q H hq hI hS => ?_)
              refine W.widen (k := 1) (n := 4) (Nat.le_of_ble_eq_true rfl) (Nat.le_of_ble_eq_true rfl) ?_
              have hR0 := hR
              have hR := hR.sub (fun a9 x9 h9 => nw_in (y := .inr (0, [.int 0, .int 0, .null, .null])) h9 hq)
              refine lv_dup hx hb dX3_make_40 rfl ?_
              refine lv_iload_n hx hb dX3_make_41 rfl (lv_at hl 2 rfl) ?_
              refine lv_iload_n hx hb dX3_make_42 rfl (lv_at hl 3 rfl) ?_
              refine ca_I (As := [.int k, .int (nI nj)]) (rest := [.ref q, .int (nI pj), .ref (aH D)]) ⟨hx, hb, hml, hown, hts⟩ (cc_X1_init_n l E A _ k nj hnj hkn (va_up_self _ _ _)) (cwI 2 hts gX3_make_X1_init rfl rfl rfl (hts (.initialized RX1) (by decide +kernel)) (hts (.methodLink RX3 28 yX1_init) (by decide +kernel)) (hts (.instanceMethod yX1_init) (by decide +kernel)) rfl (by decide +kernel) ⟨(Nat.le_of_ble_eq_true rfl), (Nat.le_of_ble_eq_true rfl)⟩) hT hI hA hS rfl rfl hl.1 (Nat.le_of_ble_eq_true rfl) dX3_make_43 ⟨(Nat.le_of_ble_eq_true rfl), (Nat.le_of_ble_eq_true rfl)⟩ (fun r w_9 H locs hp_8 hI hS => ?_)
              obtain ⟨rfl, hp_8⟩ := hp_8
              obtain ⟨qn, qp, hNq⟩ := NewRow.of hq hp_8
              obtain ⟨hR, hvr, hlv, haR⟩ := hR0.new (f := ini k) hW hb9.1 (NewRow.n hkn (by rw [ini_n hkn]; exact hNq)) (fun e9 k9 => Or.inl (by rw [ini_p (by rw [e9]; decide)]))
              refine W.eq (g2 := F0 m 46 ls [.ref q, .int (nI pj), .ref (aH D)]) rfl ?_
              refine W.eq (g2 := F0 m 46 ls [.ref (aR (adR D (nI (sNr S)) q qn qp) (nI (sNr S))), .int (nI pj), .ref (aH D)]) (by rw [haR]) ?_
              refine ca_V (As := [.int (nI pj), .ref (aR (adR D (nI (sNr S)) q qn qp) (nI (sNr S)))]) (rest := []) (r0 := (RX3, TX3, 2)) (ci := 2) ⟨hx, hb, hml, hown, hts⟩ (cc_X3_put l E A _ (by omega) (Or.inl hvr) (nI_nm1 (by omega)) hR) (cwV 2 hts gX3_make_X3_put rfl rfl rfl (by decide +kernel) ⟨(Nat.le_of_ble_eq_true rfl), (Nat.le_of_ble_eq_true rfl)⟩) hT hI hA hS rfl hR.1 rfl rfl hl.1 (Nat.le_of_ble_eq_true rfl) dX3_make_46 ⟨(Nat.le_of_ble_eq_true rfl), (Nat.le_of_ble_eq_true rfl)⟩ (fun r w_11 H locs hp_10 hI hS => ?_)
              obtain ⟨rfl, hR⟩ := hp_10
              rw [hlv]
              refine W.eq (g2 := F0 m 49 ls [.int (nI nj)]) rfl ?_
              exact re_i hx hb hr hlocks hT hA hS hI (PoC.of (by
                                unfold sp_make
                                try simp only [pv_nI hpj]
                                rw [if_neg ((fun q => q.elim ho_3 (fun q => q.elim c_4 (fun q => q.elim c_5 (not_not_intro c_6))))), if_neg ((not_not_intro c_7))]
                                try simp only [ix_nI (show pj < 2 ^ 31 by omega), ix_nI (show nj < 2 ^ 31 by omega)]) hR rfl) (Nat.le_of_ble_eq_true rfl) (Nat.le_of_ble_eq_true rfl) dX3_make_49
            · refine lv_aload_n hx hb dX3_make_35 rfl (lv_at hl 0 rfl) ?_
              refine lv_iload_n hx hb dX3_make_36 rfl (lv_at hl 1 rfl) ?_
              refine wr_new (ci := 0) (fs := [.int 0, .int 0, .null, .null]) (C := RX1) (T := TX1) (N := 4) hx hb hts in_X1 tyX1 tyX1_ok hown (hts (.classLink RX3 9 RX1) (by decide +kernel)) (hts (.instantiable RX1 4) (by decide +kernel)) (hts (.initialized RX1) (by decide +kernel)) hT hI hS hA rfl (fun j hj => by rcases (show j = 0 ∨ j = 1 ∨ j = 2 ∨ j = 3 by omega) with rfl | rfl | rfl | rfl <;> rfl) (Nat.le_of_ble_eq_true rfl) (Nat.le_of_ble_eq_true rfl) dX3_make_37 (fun q H hq hI hS => ?_)
              refine W.widen (k := 1) (n := 4) (Nat.le_of_ble_eq_true rfl) (Nat.le_of_ble_eq_true rfl) ?_
              have hR0 := hR
              have hR := hR.sub (fun a9 x9 h9 => nw_in (y := .inr (0, [.int 0, .int 0, .null, .null])) h9 hq)
              refine lv_dup hx hb dX3_make_40 rfl ?_
              refine lv_iload_n hx hb dX3_make_41 rfl (lv_at hl 2 rfl) ?_
              refine lv_iload_n hx hb dX3_make_42 rfl (lv_at hl 3 rfl) ?_
              refine ca_I (As := [.int k, .int (nI nj)]) (rest := [.ref q, .int (nI pj), .ref (aH D)]) ⟨hx, hb, hml, hown, hts⟩ (cc_X1_init_p l E A _ k nj hnj hkn (va_up_self _ _ _)) (cwI 2 hts gX3_make_X1_init rfl rfl rfl (hts (.initialized RX1) (by decide +kernel)) (hts (.methodLink RX3 28 yX1_init) (by decide +kernel)) (hts (.instanceMethod yX1_init) (by decide +kernel)) rfl (by decide +kernel) ⟨(Nat.le_of_ble_eq_true rfl), (Nat.le_of_ble_eq_true rfl)⟩) hT hI hA hS rfl rfl hl.1 (Nat.le_of_ble_eq_true rfl) dX3_make_43 ⟨(Nat.le_of_ble_eq_true rfl), (Nat.le_of_ble_eq_true rfl)⟩ (fun r w_13 H locs hp_12 hI hS => ?_)
              obtain ⟨rfl, hp_12⟩ := hp_12
              obtain ⟨qn, qp, hNq⟩ := NewRow.of hq hp_12
              obtain ⟨hR, hvr, hlv, haR⟩ := hR0.new (f := ini k) hW hb9.1 (NewRow.p hkn (by rw [ini_p hkn]; funext k9; exact pO_m1.symm) hNq) (fun e9 k9 => Or.inl (by rw [ini_p (by rw [e9]; decide)]))
              refine W.eq (g2 := F0 m 46 ls [.ref q, .int (nI pj), .ref (aH D)]) rfl ?_
              refine W.eq (g2 := F0 m 46 ls [.ref (aR (adR D (nI (sNr S)) q qn qp) (nI (sNr S))), .int (nI pj), .ref (aH D)]) (by rw [haR]) ?_
              refine ca_V (As := [.int (nI pj), .ref (aR (adR D (nI (sNr S)) q qn qp) (nI (sNr S)))]) (rest := []) (r0 := (RX3, TX3, 2)) (ci := 2) ⟨hx, hb, hml, hown, hts⟩ (cc_X3_put l E A _ (by omega) (Or.inl hvr) (nI_nm1 (by omega)) hR) (cwV 2 hts gX3_make_X3_put rfl rfl rfl (by decide +kernel) ⟨(Nat.le_of_ble_eq_true rfl), (Nat.le_of_ble_eq_true rfl)⟩) hT hI hA hS rfl hR.1 rfl rfl hl.1 (Nat.le_of_ble_eq_true rfl) dX3_make_46 ⟨(Nat.le_of_ble_eq_true rfl), (Nat.le_of_ble_eq_true rfl)⟩ (fun r w_15 H locs hp_14 hI hS => ?_)
              obtain ⟨rfl, hR⟩ := hp_14
              rw [hlv]
              refine W.eq (g2 := F0 m 49 ls [.int (nI nj)]) rfl ?_
              exact re_i hx hb hr hlocks hT hA hS hI (PoC.of (by
                                unfold sp_make
                                try simp only [pv_nI hpj]
                                rw [if_neg ((fun q => q.elim ho_3 (fun q => q.elim c_4 (fun q => q.elim c_5 (not_not_intro c_6))))), if_neg ((not_not_intro c_7))]
                                try simp only [ix_nI (show pj < 2 ^ 31 by omega), ix_nI (show nj < 2 ^ 31 by omega)]) hR rfl) (Nat.le_of_ble_eq_true rfl) (Nat.le_of_ble_eq_true rfl) dX3_make_49
          · refine lv_aload_n hx hb dX3_make_29 rfl (lv_at hl 0 rfl) ?_
            refine lv_iconst (v := 4) hx hb dX3_make_30 (by decide) ?_
            refine ca_V (As := [.int 4]) (rest := []) (r0 := (RX3, TX3, 2)) (ci := 2) ⟨hx, hb, hml, hown, hts⟩ (cc_X3_fail l E A _ 4 hR) (cwV 1 hts gX3_make_X3_fail rfl rfl rfl (by decide +kernel) ⟨(Nat.le_of_ble_eq_true rfl), (Nat.le_of_ble_eq_true rfl)⟩) hT hI hA hS rfl hR.1 rfl rfl hl.1 (Nat.le_of_ble_eq_true rfl) dX3_make_31 ⟨(Nat.le_of_ble_eq_true rfl), (Nat.le_of_ble_eq_true rfl)⟩ (fun r w_17 H locs hp_16 hI hS => ?_)
            obtain ⟨rfl, hR⟩ := hp_16
            refine W.eq (g2 := F0 m 34 ls [.int 0]) rfl ?_
            exact re_i hx hb hr hlocks hT hA hS hI (PoC.of (by
                            unfold sp_make
                            rw [if_neg ((fun q => q.elim ho_3 (fun q => q.elim c_4 (fun q => q.elim c_5 (not_not_intro c_6))))), if_pos (c_7)]) hR rfl) (Nat.le_of_ble_eq_true rfl) (Nat.le_of_ble_eq_true rfl) dX3_make_34
        · refine lv_ldc (v := -2000000001) hx hb hown (hts (.constant RX3 23 (-2000000001)) (by decide +kernel)) dX3_make_22 ?_
          exact re_i hx hb hr hlocks hT hA hS hI (PoC.of (by
                        unfold sp_make
                        rw [if_pos (Or.inr (Or.inr (Or.inr (c_6))))]) hR rfl) (Nat.le_of_ble_eq_true rfl) (Nat.le_of_ble_eq_true rfl) dX3_make_24

set_option maxHeartbeats 4000000 in
set_option maxRecDepth 100000 in
theorem cc_X3_share (l : Launch) (E : En) (A : Nat → Prop) (w : Wd) {S : Sx} {D : Ad} (p o : Int32) (hW : Wf S) (hR : Rp E S D w) (hb9 : sNr S < 512 ∧ sNt S < 512 ∧ sNl S < 512) : Ct l yX3_share wsX3_share ({ frames := 1, cells := 0, slots := 0, locals := 20 } : Room) E A w [.ref (aH D), .int p, .int o] (fun r w' => PoC E D (sp_share S p o) r w') 0 0 := by
  refine Met.ofW (cc := cX3_share) (maxL := 3) (ret := (some .int)) (by decide) rfl ?_
  intro pp0 ee0 s m args below meth cc0 s₁ B hml hv
  obtain ⟨rfl, hT, hI, hA⟩ := hv
  have hx := B.exec
  have hb := B.bytes
  have hr := B.returns
  have hts := atoms_spec (ws := wsX3_share) B.pre
  have hown : s.vm.findClass RX3 = some m.cls := findClass_of_methodNamed B.named
  have hlocks := B.notSynchronized
  have in_X3 : ∀ w ∈ wsX30, w ∈ wsX3_share := by decide +kernel
  have hS : va_S A s.heap s.heap [] := va_S.rf
  have hl := lv_entry ([.ref (aH D), .int p, .int o]) (n := 3) (Nat.le_of_ble_eq_true rfl)
  rw [lg_entry_eq]
  generalize (lg_sl ([.ref (aH D), .int p, .int o]) ++ List.replicate (3 - (lg_sl ([.ref (aH D), .int p, .int o])).length) Slot.unset).toArray = ls at hl ⊢
  have hl : lv_has ls 3 [(0, .ref (aH D)), (1, .int p), (2, .int o)] := hl
  refine lv_iload_n hx hb dX3_share_0 rfl (lv_at hl 1 rfl) ?_
  refine ca_S (As := [.int p]) (rest := []) ⟨hx, hb, hml, hown, hts⟩ (cc_X3_isOutside l E A _ p) (va_cwS 1 hts gX3_share_X3_isOutside rfl rfl rfl (by decide +kernel) ⟨(Nat.le_of_ble_eq_true rfl), (Nat.le_of_ble_eq_true rfl)⟩) hT hI hA hS rfl rfl hl.1 (Nat.le_of_ble_eq_true rfl) dX3_share_1 ⟨(Nat.le_of_ble_eq_true rfl), (Nat.le_of_ble_eq_true rfl)⟩ (fun r w_2 H locs hp_1 hI hS => ?_)
  obtain ⟨rfl, ⟨ho_3, rfl⟩ | ⟨ho_3, rfl⟩⟩ := hp_1
  · refine W.eq (g2 := F0 m 4 ls [.int 1]) rfl ?_
    refine lv_if_ne (tgt := 14) hx hb dX3_share_4 (by decide) (fun _ => ?_) (fun c => absurd c (by decide))
    refine lv_ldc (v := -2000000001) hx hb hown (hts (.constant RX3 23 (-2000000001)) (by decide +kernel)) dX3_share_14 ?_
    exact re_i hx hb hr hlocks hT hA hS hI (PoC.of (by
            unfold sp_share
            rw [if_pos (Or.inl ho_3)]) hR rfl) (Nat.le_of_ble_eq_true rfl) (Nat.le_of_ble_eq_true rfl) dX3_share_16
  · refine W.eq (g2 := F0 m 4 ls [.int 0]) rfl ?_
    refine lv_if_ne (tgt := 14) hx hb dX3_share_4 (by decide) (fun c => absurd c (by decide)) (fun _ => ?_)
    refine lv_iload_n hx hb dX3_share_7 rfl (lv_at hl 2 rfl) ?_
    refine ca_S (As := [.int o]) (rest := []) ⟨hx, hb, hml, hown, hts⟩ (cc_X3_isOutside l E A _ o) (va_cwS 1 hts gX3_share_X3_isOutside rfl rfl rfl (by decide +kernel) ⟨(Nat.le_of_ble_eq_true rfl), (Nat.le_of_ble_eq_true rfl)⟩) hT hI hA hS rfl rfl hl.1 (Nat.le_of_ble_eq_true rfl) dX3_share_8 ⟨(Nat.le_of_ble_eq_true rfl), (Nat.le_of_ble_eq_true rfl)⟩ (fun r w_5 H locs hp_4 hI hS => ?_)
    obtain ⟨rfl, ⟨ho_6, rfl⟩ | ⟨ho_6, rfl⟩⟩ := hp_4
    · refine W.eq (g2 := F0 m 11 ls [.int 1]) rfl ?_
      refine lv_if_eq (tgt := 17) hx hb dX3_share_11 (by decide) (fun c => absurd c (by decide)) (fun _ => ?_)
      refine lv_ldc (v := -2000000001) hx hb hown (hts (.constant RX3 23 (-2000000001)) (by decide +kernel)) dX3_share_14 ?_
      exact re_i hx hb hr hlocks hT hA hS hI (PoC.of (by
                unfold sp_share
                rw [if_pos (Or.inr (ho_6))]) hR rfl) (Nat.le_of_ble_eq_true rfl) (Nat.le_of_ble_eq_true rfl) dX3_share_16
    · refine W.eq (g2 := F0 m 11 ls [.int 0]) rfl ?_
      refine lv_if_eq (tgt := 17) hx hb dX3_share_11 (by decide) (fun _ => ?_) (fun c => absurd c (by decide))
      obtain ⟨pj, hpj, rfl⟩ := isP_nat ho_3
      obtain ⟨oj, hoj, rfl⟩ := isP_nat ho_6
      refine lv_aload_n hx hb dX3_share_17 rfl (lv_at hl 0 rfl) ?_
      refine wr_get (ci := 2) (C := RX3) (T := TX3) (N := 2) (v := .ref (aP D)) hx hb hts in_X3 hown hT hI hR.1 rfl 0 (by decide) (hts (.fieldLink RX3 11 "CopyRows" "places" "[LCopyRows$Row;") (by decide +kernel)) rfl dX3_share_18 ?_
      refine lv_iload_n hx hb dX3_share_21 rfl (lv_at hl 1 rfl) ?_
      refine lv_aload_n hx hb dX3_share_22 rfl (lv_at hl 0 rfl) ?_
      refine wr_get (ci := 2) (C := RX3) (T := TX3) (N := 2) (v := .ref (aP D)) hx hb hts in_X3 hown hT hI hR.1 rfl 0 (by decide) (hts (.fieldLink RX3 11 "CopyRows" "places" "[LCopyRows$Row;") (by decide +kernel)) rfl dX3_share_23 ?_
      refine lv_iload_n hx hb dX3_share_26 rfl (lv_at hl 2 rfl) ?_
      refine wr_aaldN (t := oj) hx hb hT hI hR.2.1 2 rfl (by omega) (by omega) dX3_share_27 ?_
      rcases hW.pl D oj with ⟨ez7, ep7⟩ | ⟨ez7, hv7, ep7⟩
      · refine W.eq (g2 := F0 m 28 ls [.null, .int (nI pj), .ref (aP D)]) (by rw [ep7]; rfl) ?_
        refine W.eq (g2 := F0 m 28 ls (va_rf none :: .int (nI pj) :: .ref (aP D) :: [])) rfl ?_
        refine wr_aastV (t := pj) (o := none) hx hb hT hI hS hR.2.1 2 rfl (fun v9 hv9 => by cases hv9) (by omega) (by omega) dX3_share_28 (fun H locs hI hS => ?_)
        have hR := hR.pl pj (-1)
        rw [show plO D (-1) = none from if_pos rfl] at hR
        refine lv_aload_n hx hb dX3_share_29 rfl (lv_at hl 0 rfl) ?_
        refine wr_get (ci := 2) (C := RX3) (T := TX3) (N := 2) (v := .ref (aP D)) hx hb hts in_X3 hown hT hI hR.1 rfl 0 (by decide) (hts (.fieldLink RX3 11 "CopyRows" "places" "[LCopyRows$Row;") (by decide +kernel)) rfl dX3_share_30 ?_
        refine lv_iload_n hx hb dX3_share_33 rfl (lv_at hl 1 rfl) ?_
        refine wr_aaldN (t := pj) hx hb hT hI hR.2.1 2 rfl (by omega) (by omega) dX3_share_34 ?_
        refine W.eq (g2 := F0 m 35 ls [.null]) (by rw [show sPl (uPl S pj (-1)) pj = -1 from by simp [sPl, uPl, upd], show plO D (-1) = none from if_pos rfl]; rfl) ?_
        refine ca_S (As := [.null]) (rest := []) ⟨hx, hb, hml, hown, hts⟩ (cc_X3_kindOf_N l E A _) (va_cwS 1 hts gX3_share_X3_kindOf rfl rfl rfl (by decide +kernel) ⟨(Nat.le_of_ble_eq_true rfl), (Nat.le_of_ble_eq_true rfl)⟩) hT hI hA hS rfl rfl hl.1 (Nat.le_of_ble_eq_true rfl) dX3_share_35 ⟨(Nat.le_of_ble_eq_true rfl), (Nat.le_of_ble_eq_true rfl)⟩ (fun r w_9 H locs hp_8 hI hS => ?_)
        obtain ⟨rfl, rfl⟩ := hp_8
        refine W.eq (g2 := F0 m 38 ls [.int (-1)]) rfl ?_
        exact re_i hx hb hr hlocks hT hA hS hI (PoC.of (by
                    unfold sp_share
                    try simp only [pv_nI hpj, pv_nI hoj]
                    rw [if_neg ((fun q => q.elim ho_3 ho_6))]
                    rw [show kp S (sPl S oj) = -1 from if_pos ez7, ez7, ix_nI (by omega)]) hR rfl) (Nat.le_of_ble_eq_true rfl) (Nat.le_of_ble_eq_true rfl) dX3_share_38
      · refine W.eq (g2 := F0 m 28 ls [.ref (aR D (sPl S oj)), .int (nI pj), .ref (aP D)]) (by rw [ep7]; rfl) ?_
        refine W.eq (g2 := F0 m 28 ls (va_rf (some (aR D (sPl S oj))) :: .int (nI pj) :: .ref (aP D) :: [])) rfl ?_
        refine wr_aastV (t := pj) (o := some (aR D (sPl S oj))) hx hb hT hI hS hR.2.1 2 rfl (fun v9 hv9 => by cases hv9; exact wr_any hT hI (hR.2.2.1 _ hv7).1 (r := (RX1, TX1, 4)) rfl hT.2.2.2.2.2.2.2.2.2.1) (by omega) (by omega) dX3_share_28 (fun H locs hI hS => ?_)
        have hR := hR.pl pj (sPl S oj)
        rw [ep7] at hR
        refine lv_aload_n hx hb dX3_share_29 rfl (lv_at hl 0 rfl) ?_
        refine wr_get (ci := 2) (C := RX3) (T := TX3) (N := 2) (v := .ref (aP D)) hx hb hts in_X3 hown hT hI hR.1 rfl 0 (by decide) (hts (.fieldLink RX3 11 "CopyRows" "places" "[LCopyRows$Row;") (by decide +kernel)) rfl dX3_share_30 ?_
        refine lv_iload_n hx hb dX3_share_33 rfl (lv_at hl 1 rfl) ?_
        refine wr_aaldN (t := pj) hx hb hT hI hR.2.1 2 rfl (by omega) (by omega) dX3_share_34 ?_
        refine W.eq (g2 := F0 m 35 ls [.ref (aR D (sPl S oj))]) (by rw [show sPl (uPl S pj (sPl S oj)) pj = sPl S oj from by simp [sPl, uPl, upd], ep7]; rfl) ?_
        refine ca_S (As := [.ref (aR D (sPl S oj))]) (rest := []) ⟨hx, hb, hml, hown, hts⟩ (cc_X3_kindOf_R l E A _ (hR.2.2.1 _ hv7).1) (va_cwS 1 hts gX3_share_X3_kindOf rfl rfl rfl (by decide +kernel) ⟨(Nat.le_of_ble_eq_true rfl), (Nat.le_of_ble_eq_true rfl)⟩) hT hI hA hS rfl rfl hl.1 (Nat.le_of_ble_eq_true rfl) dX3_share_35 ⟨(Nat.le_of_ble_eq_true rfl), (Nat.le_of_ble_eq_true rfl)⟩ (fun r w_11 H locs hp_10 hI hS => ?_)
        obtain ⟨rfl, rfl⟩ := hp_10
        refine W.eq (g2 := F0 m 38 ls [.int (kdv S (sPl S oj))]) rfl ?_
        exact re_i hx hb hr hlocks hT hA hS hI (PoC.of (by
                    unfold sp_share
                    try simp only [pv_nI hpj, pv_nI hoj]
                    rw [if_neg ((fun q => q.elim ho_3 ho_6))]
                    rw [show kp S (sPl S oj) = kdv S (sPl S oj) from if_neg ez7, ix_nI (by omega)]) hR rfl) (Nat.le_of_ble_eq_true rfl) (Nat.le_of_ble_eq_true rfl) dX3_share_38

set_option maxHeartbeats 4000000 in
set_option maxRecDepth 100000 in
theorem cc_X3_lump (l : Launch) (E : En) (A : Nat → Prop) (w : Wd) {S : Sx} {D : Ad} (p : Int32) (hW : Wf S) (hR : Rp E S D w) (hb9 : sNr S < 512 ∧ sNt S < 512 ∧ sNl S < 512) : Ct l yX3_lump wsX3_lump ({ frames := 3, cells := 3, slots := 44, locals := 63 } : Room) E A w [.ref (aH D), .int p] (fun r w' => PoC E D (sp_lump S p) r w') 3 44 := by
  refine Met.ofW (cc := cX3_lump) (maxL := 2) (ret := (some .int)) (by decide) rfl ?_
  intro pp0 ee0 s m args below meth cc0 s₁ B hml hv
  obtain ⟨rfl, hT, hI, hA⟩ := hv
  have hx := B.exec
  have hb := B.bytes
  have hr := B.returns
  have hts := atoms_spec (ws := wsX3_lump) B.pre
  have hown : s.vm.findClass RX3 = some m.cls := findClass_of_methodNamed B.named
  have hlocks := B.notSynchronized
  have in_X1 : ∀ w ∈ wsX10, w ∈ wsX3_lump := by decide +kernel
  have in_X3 : ∀ w ∈ wsX30, w ∈ wsX3_lump := by decide +kernel
  have hS : va_S A s.heap s.heap [] := va_S.rf
  have hl := lv_entry ([.ref (aH D), .int p]) (n := 2) (Nat.le_of_ble_eq_true rfl)
  rw [lg_entry_eq]
  generalize (lg_sl ([.ref (aH D), .int p]) ++ List.replicate (2 - (lg_sl ([.ref (aH D), .int p])).length) Slot.unset).toArray = ls at hl ⊢
  have hl : lv_has ls 2 [(0, .ref (aH D)), (1, .int p)] := hl
  refine lv_iload_n hx hb dX3_lump_0 rfl (lv_at hl 1 rfl) ?_
  refine ca_S (As := [.int p]) (rest := []) ⟨hx, hb, hml, hown, hts⟩ (cc_X3_isOutside l E A _ p) (va_cwS 1 hts gX3_lump_X3_isOutside rfl rfl rfl (by decide +kernel) ⟨(Nat.le_of_ble_eq_true rfl), (Nat.le_of_ble_eq_true rfl)⟩) hT hI hA hS rfl rfl hl.1 (Nat.le_of_ble_eq_true rfl) dX3_lump_1 ⟨(Nat.le_of_ble_eq_true rfl), (Nat.le_of_ble_eq_true rfl)⟩ (fun r w_2 H locs hp_1 hI hS => ?_)
  obtain ⟨rfl, ⟨ho_3, rfl⟩ | ⟨ho_3, rfl⟩⟩ := hp_1
  · refine W.eq (g2 := F0 m 4 ls [.int 1]) rfl ?_
    refine lv_if_eq (tgt := 10) hx hb dX3_lump_4 (by decide) (fun c => absurd c (by decide)) (fun _ => ?_)
    refine lv_ldc (v := -2000000001) hx hb hown (hts (.constant RX3 23 (-2000000001)) (by decide +kernel)) dX3_lump_7 ?_
    exact re_i hx hb hr hlocks hT hA hS hI (PoC.of (by
            unfold sp_lump
            rw [if_pos (ho_3)]
            try rw [ix_nI (by omega)]) hR rfl) (Nat.le_of_ble_eq_true rfl) (Nat.le_of_ble_eq_true rfl) dX3_lump_9
  · refine W.eq (g2 := F0 m 4 ls [.int 0]) rfl ?_
    refine lv_if_eq (tgt := 10) hx hb dX3_lump_4 (by decide) (fun _ => ?_) (fun c => absurd c (by decide))
    obtain ⟨pj, hpj, rfl⟩ := isP_nat ho_3
    refine lv_aload_n hx hb dX3_lump_10 rfl (lv_at hl 0 rfl) ?_
    refine wr_get (ci := 2) (C := RX3) (T := TX3) (N := 2) (v := .ref (aP D)) hx hb hts in_X3 hown hT hI hR.1 rfl 0 (by decide) (hts (.fieldLink RX3 11 "CopyRows" "places" "[LCopyRows$Row;") (by decide +kernel)) rfl dX3_lump_11 ?_
    refine lv_iload_n hx hb dX3_lump_14 rfl (lv_at hl 1 rfl) ?_
    refine wr_new (ci := 0) (fs := [.int 0, .int 0, .null, .null]) (C := RX1) (T := TX1) (N := 4) hx hb hts in_X1 tyX1 tyX1_ok hown (hts (.classLink RX3 9 RX1) (by decide +kernel)) (hts (.instantiable RX1 4) (by decide +kernel)) (hts (.initialized RX1) (by decide +kernel)) hT hI hS hA rfl (fun j hj => by rcases (show j = 0 ∨ j = 1 ∨ j = 2 ∨ j = 3 by omega) with rfl | rfl | rfl | rfl <;> rfl) (Nat.le_of_ble_eq_true rfl) (Nat.le_of_ble_eq_true rfl) dX3_lump_15 (fun q H hq hI hS => ?_)
    refine W.widen (k := 1) (n := 4) (Nat.le_of_ble_eq_true rfl) (Nat.le_of_ble_eq_true rfl) ?_
    have hR0 := hR
    have hR := hR.sub (fun a9 x9 h9 => nw_in (y := .inr (0, [.int 0, .int 0, .null, .null])) h9 hq)
    refine lv_dup hx hb dX3_lump_18 rfl ?_
    refine lv_bipush (v := 6) hx hb dX3_lump_19 (by decide) ?_
    refine lv_iconst (v := 0) hx hb dX3_lump_21 (by decide) ?_
    refine ca_I (As := [.int 6, .int 0]) (rest := [.ref q, .int (nI pj), .ref (aP D)]) ⟨hx, hb, hml, hown, hts⟩ (cc_X1_init_p l E A _ 6 0 (by decide) isN6 (va_up_self _ _ _)) (cwI 2 hts gX3_lump_X1_init rfl rfl rfl (hts (.initialized RX1) (by decide +kernel)) (hts (.methodLink RX3 28 yX1_init) (by decide +kernel)) (hts (.instanceMethod yX1_init) (by decide +kernel)) rfl (by decide +kernel) ⟨(Nat.le_of_ble_eq_true rfl), (Nat.le_of_ble_eq_true rfl)⟩) hT hI hA hS rfl rfl hl.1 (Nat.le_of_ble_eq_true rfl) dX3_lump_22 ⟨(Nat.le_of_ble_eq_true rfl), (Nat.le_of_ble_eq_true rfl)⟩ (fun r w_5 H locs hp_4 hI hS => ?_)
    obtain ⟨rfl, hp_4⟩ := hp_4
    obtain ⟨qn, qp, hNq⟩ := NewRow.of hq hp_4
    obtain ⟨hR, hvo, haR, hm1⟩ := hR0.lump hW hb9.2.2 hNq
    refine W.eq (g2 := F0 m 25 ls [.ref q, .int (nI pj), .ref (aP D)]) rfl ?_
    refine W.eq (g2 := F0 m 25 ls (va_rf (some q) :: .int (nI pj) :: .ref (aP D) :: [])) rfl ?_
    refine wr_aastV (t := pj) (o := some q) hx hb hT hI hS hR.2.1 2 rfl (fun v9 hv9 => by cases hv9; exact wr_any hT hI hNq.2.2.2.2.2.2.1 (r := (RX1, TX1, 4)) rfl hT.2.2.2.2.2.2.2.2.2.1) (by omega) (by omega) dX3_lump_25 (fun H locs hI hS => ?_)
    have hR := hR.pl pj (luv S)
    rw [show plO (adR D (luv S) q qn qp) (luv S) = some q from (if_neg hm1).trans (congrArg some haR)] at hR
    refine lv_iconst (v := 1) hx hb dX3_lump_26 (by decide) ?_
    exact re_i hx hb hr hlocks hT hA hS hI (PoC.of (by
            unfold sp_lump
            try simp only [pv_nI hpj]
            rw [if_neg (ho_3)]
            try rw [ix_nI (by omega)]) hR rfl) (Nat.le_of_ble_eq_true rfl) (Nat.le_of_ble_eq_true rfl) dX3_lump_27

set_option maxHeartbeats 4000000 in
set_option maxRecDepth 100000 in
theorem cc_X3_set (l : Launch) (E : En) (A : Nat → Prop) (w : Wd) {S : Sx} {D : Ad} (p k x : Int32) (hW : Wf S) (hR : Rp E S D w) (hb9 : sNr S < 512 ∧ sNt S < 512 ∧ sNl S < 512) : Ct l yX3_set wsX3_set ({ frames := 1, cells := 0, slots := 0, locals := 23 } : Room) E A w [.ref (aH D), .int p, .int k, .int x] (fun r w' => PoC E D (sp_set S p k x) r w') 0 0 := by
  refine Met.ofW (cc := cX3_set) (maxL := 6) (ret := (some .int)) (by decide) rfl ?_
  intro pp0 ee0 s m args below meth cc0 s₁ B hml hv
  obtain ⟨rfl, hT, hI, hA⟩ := hv
  have hx := B.exec
  have hb := B.bytes
  have hr := B.returns
  have hts := atoms_spec (ws := wsX3_set) B.pre
  have hown : s.vm.findClass RX3 = some m.cls := findClass_of_methodNamed B.named
  have hlocks := B.notSynchronized
  have in_X1 : ∀ w ∈ wsX10, w ∈ wsX3_set := by decide +kernel
  have hS : va_S A s.heap s.heap [] := va_S.rf
  have hl := lv_entry ([.ref (aH D), .int p, .int k, .int x]) (n := 6) (Nat.le_of_ble_eq_true rfl)
  rw [lg_entry_eq]
  generalize (lg_sl ([.ref (aH D), .int p, .int k, .int x]) ++ List.replicate (6 - (lg_sl ([.ref (aH D), .int p, .int k, .int x])).length) Slot.unset).toArray = ls at hl ⊢
  have hl : lv_has ls 6 [(0, .ref (aH D)), (1, .int p), (2, .int k), (3, .int x)] := hl
  refine lv_iload_n hx hb dX3_set_0 rfl (lv_at hl 1 rfl) ?_
  refine ca_S (As := [.int p]) (rest := []) ⟨hx, hb, hml, hown, hts⟩ (cc_X3_isOutside l E A _ p) (va_cwS 1 hts gX3_set_X3_isOutside rfl rfl rfl (by decide +kernel) ⟨(Nat.le_of_ble_eq_true rfl), (Nat.le_of_ble_eq_true rfl)⟩) hT hI hA hS rfl rfl hl.1 (Nat.le_of_ble_eq_true rfl) dX3_set_1 ⟨(Nat.le_of_ble_eq_true rfl), (Nat.le_of_ble_eq_true rfl)⟩ (fun r w_2 H locs hp_1 hI hS => ?_)
  obtain ⟨rfl, ⟨ho_3, rfl⟩ | ⟨ho_3, rfl⟩⟩ := hp_1
  · refine W.eq (g2 := F0 m 4 ls [.int 1]) rfl ?_
    refine lv_if_eq (tgt := 10) hx hb dX3_set_4 (by decide) (fun c => absurd c (by decide)) (fun _ => ?_)
    refine lv_ldc (v := -2000000001) hx hb hown (hts (.constant RX3 23 (-2000000001)) (by decide +kernel)) dX3_set_7 ?_
    exact re_i hx hb hr hlocks hT hA hS hI (PoC.of (by
            unfold sp_set
            rw [if_pos (ho_3)]) hR rfl) (Nat.le_of_ble_eq_true rfl) (Nat.le_of_ble_eq_true rfl) dX3_set_9
  · refine W.eq (g2 := F0 m 4 ls [.int 0]) rfl ?_
    refine lv_if_eq (tgt := 10) hx hb dX3_set_4 (by decide) (fun _ => ?_) (fun c => absurd c (by decide))
    refine lv_aload_n hx hb dX3_set_10 rfl (lv_at hl 0 rfl) ?_
    refine lv_iload_n hx hb dX3_set_11 rfl (lv_at hl 1 rfl) ?_
    refine lv_iconst (v := 3) hx hb dX3_set_12 (by decide) ?_
    obtain ⟨pj, hpj, rfl⟩ := isP_nat ho_3
    refine ca_V (As := [.int (nI pj), .int 3]) (rest := []) (r0 := (RX3, TX3, 2)) (ci := 2) ⟨hx, hb, hml, hown, hts⟩ (cc_X3_rowOf l E A _ (by omega) msk3 hW hR) (cwV 2 hts gX3_set_X3_rowOf rfl rfl rfl (by decide +kernel) ⟨(Nat.le_of_ble_eq_true rfl), (Nat.le_of_ble_eq_true rfl)⟩) hT hI hA hS rfl hR.1 rfl rfl hl.1 (Nat.le_of_ble_eq_true rfl) dX3_set_13 ⟨(Nat.le_of_ble_eq_true rfl), (Nat.le_of_ble_eq_true rfl)⟩ (fun r w_5 H locs hp_4 hI hS => ?_)
    rcases hp_4 with ⟨ez6, rfl, hR⟩ | ⟨ez6, hv6, hk6, rfl, hR⟩ | ⟨ez6, hv6, hk6, rfl, hR⟩
    · refine W.eq (g2 := F0 m 16 ls [.null]) rfl ?_
      refine lv_astoreN (lv' := [(4, .null), (0, .ref (aH D)), (1, .int (nI pj)), (2, .int k), (3, .int x)]) hx hb dX3_set_16 hl (by decide) rfl (fun ls hl => ?_)
      refine lv_aloadN hx hb dX3_set_18 (lv_at hl 0 rfl) ?_
      refine lv_ifnonnullN hx hb dX3_set_20 ?_
      refine lv_iconst (v := 0) hx hb dX3_set_23 (by decide) ?_
      exact re_i hx hb hr hlocks hT hA hS hI (PoC.of (by
                unfold sp_set
                try simp only [pv_nI hpj]
                rw [if_neg (ho_3), if_pos (ez6)]) hR rfl) (Nat.le_of_ble_eq_true rfl) (Nat.le_of_ble_eq_true rfl) dX3_set_24
    · refine W.eq (g2 := F0 m 16 ls [.null]) rfl ?_
      refine lv_astoreN (lv' := [(4, .null), (0, .ref (aH D)), (1, .int (nI pj)), (2, .int k), (3, .int x)]) hx hb dX3_set_16 hl (by decide) rfl (fun ls hl => ?_)
      refine lv_aloadN hx hb dX3_set_18 (lv_at hl 0 rfl) ?_
      refine lv_ifnonnullN hx hb dX3_set_20 ?_
      refine lv_iconst (v := 0) hx hb dX3_set_23 (by decide) ?_
      exact re_i hx hb hr hlocks hT hA hS hI (PoC.of (by
                unfold sp_set
                try simp only [pv_nI hpj]
                rw [if_neg (ho_3), if_neg (ez6), if_pos (hk6)]) hR rfl) (Nat.le_of_ble_eq_true rfl) (Nat.le_of_ble_eq_true rfl) dX3_set_24
    · have hln6 := hW.ln hv6
      have hr6 : vR S (sPl S pj) := row_of_N hv6 hk6
      refine W.eq (g2 := F0 m 16 ls [.ref (aR D (sPl S pj))]) rfl ?_
      refine lv_astore (lv' := [(4, .ref (aR D (sPl S pj))), (0, .ref (aH D)), (1, .int (nI pj)), (2, .int k), (3, .int x)]) hx hb dX3_set_16 hl (by decide) rfl (fun ls hl => ?_)
      refine lv_aload hx hb dX3_set_18 (lv_at hl 0 rfl) ?_
      refine lv_ifnonnull (tgt := 25) hx hb dX3_set_20 (by decide) ?_
      refine lv_aload hx hb dX3_set_25 (lv_at hl 0 rfl) ?_
      refine lv_iload_n hx hb dX3_set_27 rfl (lv_at hl 3 rfl) ?_
      refine ca_V (As := [.int k]) (rest := []) (r0 := (RX1, TX1, 4)) (ci := 0) ⟨hx, hb, hml, hown, hts⟩ (cc_X1_has l E A _ k (hR.2.2.1 _ hv6).1) (cwV 1 hts gX3_set_X1_has rfl rfl rfl (by decide +kernel) ⟨(Nat.le_of_ble_eq_true rfl), (Nat.le_of_ble_eq_true rfl)⟩) hT hI hA hS rfl (hR.2.2.1 _ hv6).1 rfl rfl hl.1 (Nat.le_of_ble_eq_true rfl) dX3_set_28 ⟨(Nat.le_of_ble_eq_true rfl), (Nat.le_of_ble_eq_true rfl)⟩ (fun r w_8 H locs hp_7 hI hS => ?_)
      obtain ⟨rfl, ⟨hi_9, rfl⟩ | ⟨hi_9, rfl⟩⟩ := hp_7
      · have hi_9 : ¬ oI (lnv S (sPl S pj)) k := has_yes hi_9
        refine W.eq (g2 := F0 m 31 ls [.int 1]) rfl ?_
        refine lv_if_ne (tgt := 40) hx hb dX3_set_31 (by decide) (fun _ => ?_) (fun c => absurd c (by decide))
        obtain ⟨kj, hkj, rfl⟩ := oI_nat (hW.ln hv6) hi_9
        refine lv_aload hx hb dX3_set_40 (lv_at hl 0 rfl) ?_
        refine wr_get (ci := 0) (C := RX1) (T := TX1) (N := 4) (v := .ref (aN D (sPl S pj))) hx hb hts in_X1 hown hT hI (hR.2.2.1 _ hv6).1 rfl 2 (by decide) (hts (.fieldLink RX3 49 "CopyRows$Row" "numbers" "[I") (by decide +kernel)) rfl dX3_set_42 ?_
        refine lv_iload_n hx hb dX3_set_45 rfl (lv_at hl 3 rfl) ?_
        refine wr_ialdN (t := kj) (n := lnv S (sPl S pj)) (f := itv S (sPl S pj)) hx hb hT hI (hR.num hv6 hk6) (by omega) (by omega) dX3_set_46 ?_
        refine lv_istore (lv' := [(5, .int ((itv S (sPl S pj)) kj)), (4, .ref (aR D (sPl S pj))), (0, .ref (aH D)), (1, .int (nI pj)), (2, .int (nI kj)), (3, .int x)]) hx hb dX3_set_47 hl (by decide) rfl (fun ls hl => ?_)
        refine lv_aload hx hb dX3_set_49 (lv_at hl 1 rfl) ?_
        refine wr_get (ci := 0) (C := RX1) (T := TX1) (N := 4) (v := .ref (aN D (sPl S pj))) hx hb hts in_X1 hown hT hI (hR.2.2.1 _ hv6).1 rfl 2 (by decide) (hts (.fieldLink RX3 49 "CopyRows$Row" "numbers" "[I") (by decide +kernel)) rfl dX3_set_51 ?_
        refine lv_iload_n hx hb dX3_set_54 rfl (lv_at hl 4 rfl) ?_
        refine lv_aload hx hb dX3_set_55 (lv_at hl 1 rfl) ?_
        refine wr_get (ci := 0) (C := RX1) (T := TX1) (N := 4) (v := .int (kdv S (sPl S pj))) hx hb hts in_X1 hown hT hI (hR.2.2.1 _ hv6).1 rfl 0 (by decide) (hts (.fieldLink RX3 53 "CopyRows$Row" "kind" "I") (by decide +kernel)) rfl dX3_set_57 ?_
        refine lv_if_ne (tgt := 68) hx hb dX3_set_60 (by decide) (fun c_10 => ?_) (fun c_10 => ?_)
        · refine lv_iload_n hx hb dX3_set_68 rfl (lv_at hl 5 rfl) ?_
          refine wr_iastN (t := kj) (n := lnv S (sPl S pj)) (f := itv S (sPl S pj)) hx hb hT hI hS (hR.num hv6 hk6) (by omega) (by omega) dX3_set_69 (fun H locs hI hS => ?_)
          have hR := hR.numW (v := sPl S pj) hr6 hk6 (upd (itv S (sPl S pj)) kj (x))
          refine lv_iload hx hb dX3_set_70 (lv_at hl 0 rfl) ?_
          exact re_i hx hb hr hlocks hT hA hS hI (PoC.of (by
                        unfold sp_set
                        try simp only [pv_nI hpj]
                        rw [if_neg (ho_3), if_neg (ez6), if_neg ((not_not_intro hk6)), if_neg (hi_9)]
                        rw [ix_nI (show kj < 2 ^ 31 by omega), if_neg c_10]) hR rfl) (Nat.le_of_ble_eq_true rfl) (Nat.le_of_ble_eq_true rfl) dX3_set_72
        · refine lv_iload_n hx hb dX3_set_63 rfl (lv_at hl 5 rfl) ?_
          refine lv_i2b (v := x.toInt8.toInt32) hx hb dX3_set_64 rfl ?_
          refine lv_goto (tgt := 69) hx hb dX3_set_65 (by decide) ?_
          refine wr_iastN (t := kj) (n := lnv S (sPl S pj)) (f := itv S (sPl S pj)) hx hb hT hI hS (hR.num hv6 hk6) (by omega) (by omega) dX3_set_69 (fun H locs hI hS => ?_)
          have hR := hR.numW (v := sPl S pj) hr6 hk6 (upd (itv S (sPl S pj)) kj (x.toInt8.toInt32))
          refine lv_iload hx hb dX3_set_70 (lv_at hl 0 rfl) ?_
          exact re_i hx hb hr hlocks hT hA hS hI (PoC.of (by
                        unfold sp_set
                        try simp only [pv_nI hpj]
                        rw [if_neg (ho_3), if_neg (ez6), if_neg ((not_not_intro hk6)), if_neg (hi_9)]
                        rw [ix_nI (show kj < 2 ^ 31 by omega), if_pos c_10]) hR rfl) (Nat.le_of_ble_eq_true rfl) (Nat.le_of_ble_eq_true rfl) dX3_set_72
      · have hi_9 : oI (lnv S (sPl S pj)) k := has_no hi_9
        refine W.eq (g2 := F0 m 31 ls [.int 0]) rfl ?_
        refine lv_if_ne (tgt := 40) hx hb dX3_set_31 (by decide) (fun c => absurd c (by decide)) (fun _ => ?_)
        refine lv_aload_n hx hb dX3_set_34 rfl (lv_at hl 1 rfl) ?_
        refine lv_iconst (v := 3) hx hb dX3_set_35 (by decide) ?_
        refine ca_V (As := [.int 3]) (rest := []) (r0 := (RX3, TX3, 2)) (ci := 2) ⟨hx, hb, hml, hown, hts⟩ (cc_X3_fail l E A _ 3 hR) (cwV 1 hts gX3_set_X3_fail rfl rfl rfl (by decide +kernel) ⟨(Nat.le_of_ble_eq_true rfl), (Nat.le_of_ble_eq_true rfl)⟩) hT hI hA hS rfl hR.1 rfl rfl hl.1 (Nat.le_of_ble_eq_true rfl) dX3_set_36 ⟨(Nat.le_of_ble_eq_true rfl), (Nat.le_of_ble_eq_true rfl)⟩ (fun r w_12 H locs hp_11 hI hS => ?_)
        obtain ⟨rfl, hR⟩ := hp_11
        refine W.eq (g2 := F0 m 39 ls [.int 0]) rfl ?_
        exact re_i hx hb hr hlocks hT hA hS hI (PoC.of (by
                    unfold sp_set
                    try simp only [pv_nI hpj]
                    rw [if_neg (ho_3), if_neg (ez6), if_neg ((not_not_intro hk6)), if_pos (hi_9)]) hR rfl) (Nat.le_of_ble_eq_true rfl) (Nat.le_of_ble_eq_true rfl) dX3_set_39
