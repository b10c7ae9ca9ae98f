theorem cc_X1_isOfNumbers_n (l : Launch) (E : En) (A : Nat → Prop) (w : Wd) {h0 na qa : Nat} {kd ln : Int32} (hk : isN kd) (hc : w h0 = some (eRow kd ln na qa)) : Ct l yX1_isOfNumbers wsX1_isOfNumbers ({ frames := 0, cells := 0, slots := 0, locals := 0 } : Room) E A w [.ref h0] (fun r w' => w = w' ∧ r = some (.int 1)) 0 0 :=
  Ct.mono (cc_X1_isOfNumbers l E A w hc) (fun r w' h => ⟨h.1, h.2.elim (fun q => q.2) (fun q => absurd hk q.1)⟩)
theorem cc_X1_isOfNumbers_p (l : Launch) (E : En) (A : Nat → Prop) (w : Wd) {h0 na qa : Nat} {kd ln : Int32} (hk : ¬ isN kd) (hc : w h0 = some (eRow kd ln na qa)) : Ct l yX1_isOfNumbers wsX1_isOfNumbers ({ frames := 0, cells := 0, slots := 0, locals := 0 } : Room) E A w [.ref h0] (fun r w' => w = w' ∧ r = some (.int 0)) 0 0 :=
  Ct.mono (cc_X1_isOfNumbers l E A w hc) (fun r w' h => ⟨h.1, h.2.elim (fun q => absurd q.1 hk) (fun q => q.2)⟩)

set_option maxHeartbeats 4000000 in
set_option maxRecDepth 100000 in
theorem cc_X1_countTaken_n (l : Launch) (E : En) (A : Nat → Prop) (w : Wd) {h0 na qa : Nat} {kd ln : Int32} (h1 : Nat) (i n : Int32) (hk : isN kd) (hc : w h0 = some (eRow kd ln na qa)) : Ct l yX1_countTaken wsX1_countTaken ({ frames := 2, cells := 0, slots := 0, locals := 42 } : Room) E A w [.ref h0, .ref h1, .int i, .int n] (fun r w' => w = w' ∧ r = some (.int n)) 0 0 := by
  refine Met.ofW (cc := cX1_countTaken) (maxL := 5) (ret := (some .int)) (by decide) rfl ?_
  intro pp0 ee0 s m args below meth cc0 s₁ B hml hv
  obtain ⟨rfl, hT, hI, hA⟩ := hv
  have hx := B.exec
  have hb := B.bytes
  have hr := B.returns
  have hts := atoms_spec (ws := wsX1_countTaken) B.pre
  have hown : s.vm.findClass RX1 = some m.cls := findClass_of_methodNamed B.named
  have hlocks := B.notSynchronized
  have hS : va_S A s.heap s.heap [] := va_S.rf
  have hl := lv_entry ([.ref h0, .ref h1, .int i, .int n]) (n := 5) (Nat.le_of_ble_eq_true rfl)
  rw [lg_entry_eq]
  generalize (lg_sl ([.ref h0, .ref h1, .int i, .int n]) ++ List.replicate (5 - (lg_sl ([.ref h0, .ref h1, .int i, .int n])).length) Slot.unset).toArray = ls at hl ⊢
  have hl : lv_has ls 5 [(0, .ref h0), (1, .ref h1), (2, .int i), (3, .int n)] := hl
  refine lv_aload_n hx hb dX1_countTaken_0 rfl (lv_at hl 0 rfl) ?_
  refine ca_V (As := []) (rest := []) (r0 := (RX1, TX1, 4)) (ci := 0) ⟨hx, hb, hml, hown, hts⟩ (cc_X1_isOfNumbers_n l E A _ hk hc) (cwV 0 hts gX1_countTaken_X1_isOfNumbers rfl rfl rfl (by decide +kernel) ⟨(Nat.le_of_ble_eq_true rfl), (Nat.le_of_ble_eq_true rfl)⟩) hT hI hA hS rfl hc rfl rfl hl.1 (Nat.le_of_ble_eq_true rfl) dX1_countTaken_1 ⟨(Nat.le_of_ble_eq_true rfl), (Nat.le_of_ble_eq_true rfl)⟩ (fun r w_2 H locs hp_1 hI hS => ?_)
  obtain ⟨rfl, rfl⟩ := hp_1
  refine W.eq (g2 := F0 m 4 ls [.int 1]) rfl ?_
  refine lv_if_eq (tgt := 9) hx hb dX1_countTaken_4 (by decide) (fun c => absurd c (by decide)) (fun _ => ?_)
  refine lv_iload_n hx hb dX1_countTaken_7 rfl (lv_at hl 3 rfl) ?_
  exact re_i hx hb hr hlocks hT hA hS hI (⟨rfl, rfl⟩) (Nat.le_of_ble_eq_true rfl) (Nat.le_of_ble_eq_true rfl) dX1_countTaken_8

set_option maxHeartbeats 4000000 in
set_option maxRecDepth 100000 in
theorem cc_X1_countTaken_p (l : Launch) (E : En) (A : Nat → Prop) (w : Wd) {h0 na qa : Nat} {kd ln : Int32} {h1 na1 qa1 z : Nat} {kf lf : Int32} {g : Nat → Option Nat} (i n : Nat) (hz : z < 2 ^ 30) (hin9 : i + n ≤ z) (hk : ¬ isN kd) (hc : w h0 = some (eRow kd ln na qa)) (hc1 : w h1 = some (eRow kf lf na1 qa1)) (hq1 : w qa1 = some (eP E z g)) (hok : ∀ k, k < n → okW w (g (i + k))) : Ct l yX1_countTaken wsX1_countTaken ({ frames := 2, cells := 0, slots := 0, locals := 42 } : Room) E A w [.ref h0, .ref h1, .int (nI i), .int (nI n)] (fun r w' => w = w' ∧ ∃ cn : Nat, r = some (.int (nI cn)) ∧ cn ≤ n ∧ (∀ k, k < cn → fitW w kd (g (i + k))) ∧ (cn < n → ¬ fitW w kd (g (i + cn)))) 0 0 := by
  refine Met.ofW (cc := cX1_countTaken) (maxL := 5) (ret := (some .int)) (by decide) rfl ?_
  intro pp0 ee0 s m args below meth cc0 s₁ B hml hv
  obtain ⟨rfl, hT, hI, hA⟩ := hv
  have hx := B.exec
  have hb := B.bytes
  have hr := B.returns
  have hts := atoms_spec (ws := wsX1_countTaken) B.pre
  have hown : s.vm.findClass RX1 = some m.cls := findClass_of_methodNamed B.named
  have hlocks := B.notSynchronized
  have in_X1 : ∀ w ∈ wsX10, w ∈ wsX1_countTaken := by decide +kernel
  have hS : va_S A s.heap s.heap [] := va_S.rf
  have hl := lv_entry ([.ref h0, .ref h1, .int (nI i), .int (nI n)]) (n := 5) (Nat.le_of_ble_eq_true rfl)
  rw [lg_entry_eq]
  generalize (lg_sl ([.ref h0, .ref h1, .int (nI i), .int (nI n)]) ++ List.replicate (5 - (lg_sl ([.ref h0, .ref h1, .int (nI i), .int (nI n)])).length) Slot.unset).toArray = ls at hl ⊢
  have hl : lv_has ls 5 [(0, .ref h0), (1, .ref h1), (2, .int (nI i)), (3, .int (nI n))] := hl
  refine lv_aload_n hx hb dX1_countTaken_0 rfl (lv_at hl 0 rfl) ?_
  refine ca_V (As := []) (rest := []) (r0 := (RX1, TX1, 4)) (ci := 0) ⟨hx, hb, hml, hown, hts⟩ (cc_X1_isOfNumbers_p l E A _ hk hc) (cwV 0 hts gX1_countTaken_X1_isOfNumbers rfl rfl rfl (by decide +kernel) ⟨(Nat.le_of_ble_eq_true rfl), (Nat.le_of_ble_eq_true rfl)⟩) hT hI hA hS rfl hc rfl rfl hl.1 (Nat.le_of_ble_eq_true rfl) dX1_countTaken_1 ⟨(Nat.le_of_ble_eq_true rfl), (Nat.le_of_ble_eq_true rfl)⟩ (fun r w_2 H locs hp_1 hI hS => ?_)
  obtain ⟨rfl, rfl⟩ := hp_1
  refine W.eq (g2 := F0 m 4 ls [.int 0]) rfl ?_
  refine lv_if_eq (tgt := 9) hx hb dX1_countTaken_4 (by decide) (fun _ => ?_) (fun c => absurd c (by decide))
  refine lv_iconst (v := 0) hx hb dX1_countTaken_9 (by decide) ?_
  refine lv_istore (lv' := [(4, .int 0), (0, .ref h0), (1, .ref h1), (2, .int (nI i)), (3, .int (nI n))]) hx hb dX1_countTaken_10 hl (by decide) rfl (fun ls hl => ?_)
  refine lp_w (ι := Nat) (fun t => n - t) (fun t H locs ls => (t ≤ n ∧ ∀ k, k < t → fitW w kd (g (i + k))) ∧ Hv E A w H ∧ va_S A s.heap H locs ∧ lv_has ls 5 [(0, .ref h0), (1, .ref h1), (2, .int (nI i)), (3, .int (nI n)), (4, .int (nI t))]) ?_ 0 _ _ _ ⟨⟨Nat.zero_le _, fun k hk => absurd hk (Nat.not_lt_zero _)⟩, hI, hS, lv_sub hl [1, 2, 3, 4, 0] (rfl)⟩
  intro t H locs ls hq ih
  obtain ⟨⟨ht, hft⟩, hI, hS, hl⟩ := hq
  refine lv_iload hx hb dX1_countTaken_12 (lv_at hl 4 rfl) ?_
  refine lv_iload_n hx hb dX1_countTaken_14 rfl (lv_at hl 3 rfl) ?_
  refine lv_icmp_ge (tgt := 43) hx hb dX1_countTaken_15 (by decide) (fun c_3 => ?_) (fun c_3 => ?_)
  · have c_3 : n ≤ t := (nI_leI (a := n) (b := t) (by omega) (by omega)).mp c_3
    refine lv_iload_n hx hb dX1_countTaken_43 rfl (lv_at hl 3 rfl) ?_
    exact re_i hx hb hr hlocks hT hA hS hI (by
            have e : t = n := by omega
            subst e
            exact ⟨rfl, t, rfl, Nat.le_refl _, hft, fun q => absurd q (Nat.lt_irrefl _)⟩) (Nat.le_of_ble_eq_true rfl) (Nat.le_of_ble_eq_true rfl) dX1_countTaken_44
  · have c_3 : ¬ n ≤ t := fun q => c_3 ((nI_leI (a := n) (b := t) (by omega) (by omega)).mpr q)
    refine lv_aload_n hx hb dX1_countTaken_18 rfl (lv_at hl 0 rfl) ?_
    refine lv_aload_n hx hb dX1_countTaken_19 rfl (lv_at hl 1 rfl) ?_
    refine wr_get (ci := 0) (C := RX1) (T := TX1) (N := 4) (v := .ref qa1) hx hb hts in_X1 hown hT hI hc1 rfl 3 (by decide) (hts (.fieldLink RX1 22 "CopyRows$Row" "parts" "[LCopyRows$Part;") (by decide +kernel)) rfl dX1_countTaken_20 ?_
    refine lv_iload_n hx hb dX1_countTaken_23 rfl (lv_at hl 2 rfl) ?_
    refine lv_iload hx hb dX1_countTaken_24 (lv_at hl 4 rfl) ?_
    refine lv_iadd hx hb dX1_countTaken_26 ?_
    refine W.eq (g2 := F0 m 27 ls [.int (nI (i + t)), .ref qa1, .ref h0]) (by rw [show (nI i : Int32) + nI t = nI (i + t) from nI_add i t]) ?_
    refine wr_aaldN (t := i + t) (n := z) (f := g) hx hb hT hI hq1 1 rfl (by omega) (by omega) dX1_countTaken_27 ?_
    refine ca_V (As := [va_rf (g (i + t))]) (rest := []) (r0 := (RX1, TX1, 4)) (ci := 0) ⟨hx, hb, hml, hown, hts⟩ (cc_X1_takes l E A _ (g (i + t)) (hok t (by omega)) hc) (cwV 1 hts gX1_countTaken_X1_takes rfl rfl rfl (by decide +kernel) ⟨(Nat.le_of_ble_eq_true rfl), (Nat.le_of_ble_eq_true rfl)⟩) hT hI hA hS rfl hc rfl rfl hl.1 (Nat.le_of_ble_eq_true rfl) dX1_countTaken_28 ⟨(Nat.le_of_ble_eq_true rfl), (Nat.le_of_ble_eq_true rfl)⟩ (fun r w_5 H locs hp_4 hI hS => ?_)
    obtain ⟨rfl, ⟨hb_6, rfl⟩ | ⟨hb_6, rfl⟩⟩ := hp_4
    · refine W.eq (g2 := F0 m 31 ls [.int 1]) rfl ?_
      refine lv_if_ne (tgt := 37) hx hb dX1_countTaken_31 (by decide) (fun _ => ?_) (fun c => absurd c (by decide))
      refine lv_iinc (v := nI (t + 1)) (lv' := [(4, .int (nI (t + 1))), (0, .ref h0), (1, .ref h1), (2, .int (nI i)), (3, .int (nI n))]) hx hb dX1_countTaken_37 hl (k := 4) rfl (nI_1 _) (by decide) rfl (fun ls hl => ?_)
      refine lv_goto (tgt := 12) hx hb dX1_countTaken_40 (by decide) ?_
      exact ih (t + 1) _ _ _ ⟨⟨by omega, fun k hk9 => by rcases Nat.lt_or_ge k t with q | q; exact hft k q; rw [show k = t by omega]; exact hb_6⟩, hI, hS, lv_sub hl [1, 2, 3, 4, 0] (rfl)⟩ (by omega)
    · refine W.eq (g2 := F0 m 31 ls [.int 0]) rfl ?_
      refine lv_if_ne (tgt := 37) hx hb dX1_countTaken_31 (by decide) (fun c => absurd c (by decide)) (fun _ => ?_)
      refine lv_iload hx hb dX1_countTaken_34 (lv_at hl 4 rfl) ?_
      exact re_i hx hb hr hlocks hT hA hS hI (⟨rfl, t, rfl, ht, hft, fun _ => hb_6⟩) (Nat.le_of_ble_eq_true rfl) (Nat.le_of_ble_eq_true rfl) dX1_countTaken_36

set_option maxHeartbeats 4000000 in
set_option maxRecDepth 100000 in
theorem cc_X1_take_n (l : Launch) (E : En) (A : Nat → Prop) (w : Wd) {h0 na qa : Nat} {kd ln : Int32} {h1 na1 qa1 z z1 : Nat} {kf lf : Int32} {f g : Nat → Int32} (i j n : Nat) (hz : z < 2 ^ 30) (hz1 : z1 < 2 ^ 30) (h4 : i + n ≤ z1) (h5 : j + n ≤ z) (hk : isN kd) (hc : w h0 = some (eRow kd ln na qa)) (hc1 : w h1 = some (eRow kf lf na1 qa1)) (hn : w na = some (eI E z g)) (hn1 : w na1 = some (eI E z1 f)) : Ct l yX1_take wsX1_take ({ frames := 1, cells := 0, slots := 0, locals := 20 } : Room) E A w [.ref h0, .ref h1, .int (nI i), .int (nI j), .int (nI n)] (fun r w' => r = none ∧ va_up w na (some (eI E z (va_cpy f g i j n))) = w') 0 0 := by
  refine Met.ofW (cc := cX1_take) (maxL := 5) (ret := none) (by decide) rfl ?_
  intro pp0 ee0 s m args below meth cc0 s₁ B hml hv
  obtain ⟨rfl, hT, hI, hA⟩ := hv
  have hx := B.exec
  have hb := B.bytes
  have hr := B.returns
  have hts := atoms_spec (ws := wsX1_take) B.pre
  have hown : s.vm.findClass RX1 = some m.cls := findClass_of_methodNamed B.named
  have hlocks := B.notSynchronized
  have in_X1 : ∀ w ∈ wsX10, w ∈ wsX1_take := by decide +kernel
  have hS : va_S A s.heap s.heap [] := va_S.rf
  have hl := lv_entry ([.ref h0, .ref h1, .int (nI i), .int (nI j), .int (nI n)]) (n := 5) (Nat.le_of_ble_eq_true rfl)
  rw [lg_entry_eq]
  generalize (lg_sl ([.ref h0, .ref h1, .int (nI i), .int (nI j), .int (nI n)]) ++ List.replicate (5 - (lg_sl ([.ref h0, .ref h1, .int (nI i), .int (nI j), .int (nI n)])).length) Slot.unset).toArray = ls at hl ⊢
  have hl : lv_has ls 5 [(0, .ref h0), (1, .ref h1), (2, .int (nI i)), (3, .int (nI j)), (4, .int (nI n))] := hl
  refine lv_aload_n hx hb dX1_take_0 rfl (lv_at hl 0 rfl) ?_
  refine ca_V (As := []) (rest := []) (r0 := (RX1, TX1, 4)) (ci := 0) ⟨hx, hb, hml, hown, hts⟩ (cc_X1_isOfNumbers_n l E A _ hk hc) (cwV 0 hts gX1_take_X1_isOfNumbers rfl rfl rfl (by decide +kernel) ⟨(Nat.le_of_ble_eq_true rfl), (Nat.le_of_ble_eq_true rfl)⟩) hT hI hA hS rfl hc rfl rfl hl.1 (Nat.le_of_ble_eq_true rfl) dX1_take_1 ⟨(Nat.le_of_ble_eq_true rfl), (Nat.le_of_ble_eq_true rfl)⟩ (fun r w_2 H locs hp_1 hI hS => ?_)
  obtain ⟨rfl, rfl⟩ := hp_1
  refine W.eq (g2 := F0 m 4 ls [.int 1]) rfl ?_
  refine lv_if_eq (tgt := 25) hx hb dX1_take_4 (by decide) (fun c => absurd c (by decide)) (fun _ => ?_)
  refine lv_aload_n hx hb dX1_take_7 rfl (lv_at hl 1 rfl) ?_
  refine wr_get (ci := 0) (C := RX1) (T := TX1) (N := 4) (v := .ref na1) hx hb hts in_X1 hown hT hI hc1 rfl 2 (by decide) (hts (.fieldLink RX1 18 "CopyRows$Row" "numbers" "[I") (by decide +kernel)) rfl dX1_take_8 ?_
  refine lv_iload_n hx hb dX1_take_11 rfl (lv_at hl 2 rfl) ?_
  refine lv_aload_n hx hb dX1_take_12 rfl (lv_at hl 0 rfl) ?_
  refine wr_get (ci := 0) (C := RX1) (T := TX1) (N := 4) (v := .ref na) hx hb hts in_X1 hown hT hI hc rfl 2 (by decide) (hts (.fieldLink RX1 18 "CopyRows$Row" "numbers" "[I") (by decide +kernel)) rfl dX1_take_13 ?_
  refine lv_iload_n hx hb dX1_take_16 rfl (lv_at hl 3 rfl) ?_
  refine lv_iload hx hb dX1_take_17 (lv_at hl 4 rfl) ?_
  refine wr_copyiN hx hb (hml.trans hl.1.symm) hown (hts (.methodLink RX1 38 arraycopyName) (by decide +kernel)) (hts (.native arraycopyName) (by decide +kernel)) (hts (.static arraycopyName) (by decide +kernel)) (hts (.initialized "java/lang/System") (by decide +kernel)) hT hI hS hn1 hn (by omega) (by omega) h4 h5 (Nat.le_of_ble_eq_true rfl) (Nat.le_of_ble_eq_true rfl) dX1_take_19 (fun H locs hI hS => ?_)
  refine lv_goto (tgt := 40) hx hb dX1_take_22 (by decide) ?_
  exact re_v hx hb hr hlocks hT hA hS hI (⟨rfl, rfl⟩) (Nat.le_of_ble_eq_true rfl) (Nat.le_of_ble_eq_true rfl) dX1_take_40

set_option maxHeartbeats 4000000 in
set_option maxRecDepth 100000 in
theorem cc_X1_take_p (l : Launch) (E : En) (A : Nat → Prop) (w : Wd) {h0 na qa : Nat} {kd ln : Int32} {h1 na1 qa1 z z1 : Nat} {kf lf : Int32} {f g : Nat → Option Nat} (i j n : Nat) (hz : z < 2 ^ 30) (hz1 : z1 < 2 ^ 30) (h4 : i + n ≤ z1) (h5 : j + n ≤ z) (hk : ¬ isN kd) (hc : w h0 = some (eRow kd ln na qa)) (hc1 : w h1 = some (eRow kf lf na1 qa1)) (hn : w qa = some (eP E z g)) (hn1 : w qa1 = some (eP E z1 f)) (hel : ∀ k, k < n → okW w (f (i + k))) : Ct l yX1_take wsX1_take ({ frames := 1, cells := 0, slots := 0, locals := 20 } : Room) E A w [.ref h0, .ref h1, .int (nI i), .int (nI j), .int (nI n)] (fun r w' => r = none ∧ va_up w qa (some (eP E z (va_cpy f g i j n))) = w') 0 0 := by
  refine Met.ofW (cc := cX1_take) (maxL := 5) (ret := none) (by decide) rfl ?_
  intro pp0 ee0 s m args below meth cc0 s₁ B hml hv
  obtain ⟨rfl, hT, hI, hA⟩ := hv
  have hx := B.exec
  have hb := B.bytes
  have hr := B.returns
  have hts := atoms_spec (ws := wsX1_take) B.pre
  have hown : s.vm.findClass RX1 = some m.cls := findClass_of_methodNamed B.named
  have hlocks := B.notSynchronized
  have in_X1 : ∀ w ∈ wsX10, w ∈ wsX1_take := by decide +kernel
  have hS : va_S A s.heap s.heap [] := va_S.rf
  have hl := lv_entry ([.ref h0, .ref h1, .int (nI i), .int (nI j), .int (nI n)]) (n := 5) (Nat.le_of_ble_eq_true rfl)
  rw [lg_entry_eq]
  generalize (lg_sl ([.ref h0, .ref h1, .int (nI i), .int (nI j), .int (nI n)]) ++ List.replicate (5 - (lg_sl ([.ref h0, .ref h1, .int (nI i), .int (nI j), .int (nI n)])).length) Slot.unset).toArray = ls at hl ⊢
  have hl : lv_has ls 5 [(0, .ref h0), (1, .ref h1), (2, .int (nI i)), (3, .int (nI j)), (4, .int (nI n))] := hl
  refine lv_aload_n hx hb dX1_take_0 rfl (lv_at hl 0 rfl) ?_
  refine ca_V (As := []) (rest := []) (r0 := (RX1, TX1, 4)) (ci := 0) ⟨hx, hb, hml, hown, hts⟩ (cc_X1_isOfNumbers_p l E A _ hk hc) (cwV 0 hts gX1_take_X1_isOfNumbers rfl rfl rfl (by decide +kernel) ⟨(Nat.le_of_ble_eq_true rfl), (Nat.le_of_ble_eq_true rfl)⟩) hT hI hA hS rfl hc rfl rfl hl.1 (Nat.le_of_ble_eq_true rfl) dX1_take_1 ⟨(Nat.le_of_ble_eq_true rfl), (Nat.le_of_ble_eq_true rfl)⟩ (fun r w_2 H locs hp_1 hI hS => ?_)
  obtain ⟨rfl, rfl⟩ := hp_1
  refine W.eq (g2 := F0 m 4 ls [.int 0]) rfl ?_
  refine lv_if_eq (tgt := 25) hx hb dX1_take_4 (by decide) (fun _ => ?_) (fun c => absurd c (by decide))
  refine lv_aload_n hx hb dX1_take_25 rfl (lv_at hl 1 rfl) ?_
  refine wr_get (ci := 0) (C := RX1) (T := TX1) (N := 4) (v := .ref qa1) hx hb hts in_X1 hown hT hI hc1 rfl 3 (by decide) (hts (.fieldLink RX1 22 "CopyRows$Row" "parts" "[LCopyRows$Part;") (by decide +kernel)) rfl dX1_take_26 ?_
  refine lv_iload_n hx hb dX1_take_29 rfl (lv_at hl 2 rfl) ?_
  refine lv_aload_n hx hb dX1_take_30 rfl (lv_at hl 0 rfl) ?_
  refine wr_get (ci := 0) (C := RX1) (T := TX1) (N := 4) (v := .ref qa) hx hb hts in_X1 hown hT hI hc rfl 3 (by decide) (hts (.fieldLink RX1 22 "CopyRows$Row" "parts" "[LCopyRows$Part;") (by decide +kernel)) rfl dX1_take_31 ?_
  refine lv_iload_n hx hb dX1_take_34 rfl (lv_at hl 3 rfl) ?_
  refine lv_iload hx hb dX1_take_35 (lv_at hl 4 rfl) ?_
  refine wr_copyqN hx hb (hml.trans hl.1.symm) hown (hts (.methodLink RX1 38 arraycopyName) (by decide +kernel)) (hts (.native arraycopyName) (by decide +kernel)) (hts (.static arraycopyName) (by decide +kernel)) (hts (.initialized "java/lang/System") (by decide +kernel)) hT hI hS hn1 hn (by omega) (by omega) h4 h5 hel (Nat.le_of_ble_eq_true rfl) (Nat.le_of_ble_eq_true rfl) dX1_take_37 (fun H locs hI hS => ?_)
  exact re_v hx hb hr hlocks hT hA hS hI (⟨rfl, rfl⟩) (Nat.le_of_ble_eq_true rfl) (Nat.le_of_ble_eq_true rfl) dX1_take_40

set_option maxHeartbeats 4000000 in
set_option maxRecDepth 100000 in
theorem cc_X1_total (l : Launch) (E : En) (A : Nat → Prop) (w : Wd) {h0 na qa : Nat} {kd ln : Int32} {z : Nat} {f : Nat → Int32} (hz : z < 2 ^ 30) (hc : w h0 = some (eRow kd ln na qa)) (hn : w na = some (eI E z f)) : Ct l yX1_total wsX1_total ({ frames := 0, cells := 0, slots := 0, locals := 0 } : Room) E A w [.ref h0] (fun r w' => w = w' ∧ r = some (.int (sumF f z))) 0 0 := by
  refine Met.ofW (cc := cX1_total) (maxL := 3) (ret := (some .int)) (by decide) rfl ?_
  intro pp0 ee0 s m args below meth cc0 s₁ B hml hv
  obtain ⟨rfl, hT, hI, hA⟩ := hv
  have hx := B.exec
  have hb := B.bytes
  have hr := B.returns
  have hts := atoms_spec (ws := wsX1_total) B.pre
  have hown : s.vm.findClass RX1 = some m.cls := findClass_of_methodNamed B.named
  have hlocks := B.notSynchronized
  have in_X1 : ∀ w ∈ wsX10, w ∈ wsX1_total := by decide +kernel
  have hS : va_S A s.heap s.heap [] := va_S.rf
  have hl := lv_entry ([.ref h0]) (n := 3) (Nat.le_of_ble_eq_true rfl)
  rw [lg_entry_eq]
  generalize (lg_sl ([.ref h0]) ++ List.replicate (3 - (lg_sl ([.ref h0])).length) Slot.unset).toArray = ls at hl ⊢
  have hl : lv_has ls 3 [(0, .ref h0)] := hl
  refine lv_iconst (v := 0) hx hb dX1_total_0 (by decide) ?_
  refine lv_istore_n (lv' := [(1, .int 0), (0, .ref h0)]) hx hb dX1_total_1 rfl hl (by decide) rfl (fun ls hl => ?_)
  refine lv_iconst (v := 0) hx hb dX1_total_2 (by decide) ?_
  refine lv_istore_n (lv' := [(2, .int 0), (1, .int 0), (0, .ref h0)]) hx hb dX1_total_3 rfl hl (by decide) rfl (fun ls hl => ?_)
  refine lp_w (ι := Nat) (fun t => z - t) (fun t H locs ls => (t ≤ z) ∧ Hv E A w H ∧ va_S A s.heap H locs ∧ lv_has ls 3 [(0, .ref h0), (1, .int (sumF f t)), (2, .int (nI t))]) ?_ 0 _ _ _ ⟨Nat.zero_le _, hI, hS, lv_sub hl [2, 1, 0] (rfl)⟩
  intro t H locs ls hq ih
  obtain ⟨ht, hI, hS, hl⟩ := hq
  refine lv_iload_n hx hb dX1_total_4 rfl (lv_at hl 2 rfl) ?_
  refine lv_aload_n hx hb dX1_total_5 rfl (lv_at hl 0 rfl) ?_
  refine wr_get (ci := 0) (C := RX1) (T := TX1) (N := 4) (v := .ref na) hx hb hts in_X1 hown hT hI hc rfl 2 (by decide) (hts (.fieldLink RX1 18 "CopyRows$Row" "numbers" "[I") (by decide +kernel)) rfl dX1_total_6 ?_
  refine wr_alen hx hb hT hI hn 0 rfl dX1_total_9 ?_
  refine lv_icmp_ge (tgt := 28) hx hb dX1_total_10 (by decide) (fun c_1 => ?_) (fun c_1 => ?_)
  · have c_1 : z ≤ t := (nI_leI (a := z) (b := t) (by omega) (by omega)).mp c_1
    refine lv_iload_n hx hb dX1_total_28 rfl (lv_at hl 1 rfl) ?_
    exact re_i hx hb hr hlocks hT hA hS hI (by
            have e : t = z := by omega
            subst e
            exact ⟨rfl, rfl⟩) (Nat.le_of_ble_eq_true rfl) (Nat.le_of_ble_eq_true rfl) dX1_total_29
  · have c_1 : ¬ z ≤ t := fun q => c_1 ((nI_leI (a := z) (b := t) (by omega) (by omega)).mpr q)
    refine lv_iload_n hx hb dX1_total_13 rfl (lv_at hl 1 rfl) ?_
    refine lv_aload_n hx hb dX1_total_14 rfl (lv_at hl 0 rfl) ?_
    refine wr_get (ci := 0) (C := RX1) (T := TX1) (N := 4) (v := .ref na) hx hb hts in_X1 hown hT hI hc rfl 2 (by decide) (hts (.fieldLink RX1 18 "CopyRows$Row" "numbers" "[I") (by decide +kernel)) rfl dX1_total_15 ?_
    refine lv_iload_n hx hb dX1_total_18 rfl (lv_at hl 2 rfl) ?_
    refine wr_ialdN (t := t) (n := z) (f := f) hx hb hT hI hn (by omega) (by omega) dX1_total_19 ?_
    refine lv_iadd hx hb dX1_total_20 ?_
    refine lv_istore_n (lv' := [(1, .int ((sumF f t) + (f t))), (0, .ref h0), (2, .int (nI t))]) hx hb dX1_total_21 rfl hl (by decide) rfl (fun ls hl => ?_)
    refine lv_iinc (v := nI (t + 1)) (lv' := [(2, .int (nI (t + 1))), (1, .int ((sumF f t) + (f t))), (0, .ref h0)]) hx hb dX1_total_22 hl (k := 2) rfl (nI_1 _) (by decide) rfl (fun ls hl => ?_)
    refine lv_goto (tgt := 4) hx hb dX1_total_25 (by decide) ?_
    exact ih (t + 1) _ _ _ ⟨by omega, hI, hS, lv_sub hl [2, 1, 0] (rfl)⟩ (by omega)

set_option maxHeartbeats 4000000 in
set_option maxRecDepth 100000 in
theorem cc_X1_order (l : Launch) (E : En) (A : Nat → Prop) (w : Wd) {h0 h1 na qa na1 qa1 n n1 : Nat} {kd kf : Int32} {f f1 : Nat → Int32} (hz : n < 2 ^ 30) (hz1 : n1 < 2 ^ 30) (hc : w h0 = some (eRow kd (nI n) na qa)) (hc1 : w h1 = some (eRow kf (nI n1) na1 qa1)) (hn : w na = some (eI E n f)) (hn1 : w na1 = some (eI E n1 f1)) : Ct l yX1_order wsX1_order ({ frames := 0, cells := 0, slots := 0, locals := 0 } : Room) E A w [.ref h0, .ref h1] (fun r w' => w = w' ∧ r = some (.int (cmpF f f1 n n1 n 0))) 0 0 := by
  refine Met.ofW (cc := cX1_order) (maxL := 3) (ret := (some .int)) (by decide) rfl ?_
  intro pp0 ee0 s m args below meth cc0 s₁ B hml hv
  obtain ⟨rfl, hT, hI, hA⟩ := hv
  have hx := B.exec
  have hb := B.bytes
  have hr := B.returns
  have hts := atoms_spec (ws := wsX1_order) B.pre
  have hown : s.vm.findClass RX1 = some m.cls := findClass_of_methodNamed B.named
  have hlocks := B.notSynchronized
  have in_X1 : ∀ w ∈ wsX10, w ∈ wsX1_order := by decide +kernel
  have hS : va_S A s.heap s.heap [] := va_S.rf
  have hl := lv_entry ([.ref h0, .ref h1]) (n := 3) (Nat.le_of_ble_eq_true rfl)
  rw [lg_entry_eq]
  generalize (lg_sl ([.ref h0, .ref h1]) ++ List.replicate (3 - (lg_sl ([.ref h0, .ref h1])).length) Slot.unset).toArray = ls at hl ⊢
  have hl : lv_has ls 3 [(0, .ref h0), (1, .ref h1)] := hl
  refine lv_iconst (v := 0) hx hb dX1_order_0 (by decide) ?_
  refine lv_istore_n (lv' := [(2, .int 0), (0, .ref h0), (1, .ref h1)]) hx hb dX1_order_1 rfl hl (by decide) rfl (fun ls hl => ?_)
  refine lp_w (ι := Nat) (fun t => n - t) (fun t H locs ls => (t ≤ n ∧ cmpF f f1 n n1 n 0 = cmpF f f1 n n1 (n - t) t) ∧ Hv E A w H ∧ va_S A s.heap H locs ∧ lv_has ls 3 [(0, .ref h0), (1, .ref h1), (2, .int (nI t))]) ?_ 0 _ _ _ ⟨⟨Nat.zero_le _, rfl⟩, hI, hS, lv_sub hl [1, 2, 0] (rfl)⟩
  intro t H locs ls hq ih
  obtain ⟨⟨ht, hcm⟩, hI, hS, hl⟩ := hq
  refine lv_iload_n hx hb dX1_order_2 rfl (lv_at hl 2 rfl) ?_
  refine lv_aload_n hx hb dX1_order_3 rfl (lv_at hl 0 rfl) ?_
  refine wr_get (ci := 0) (C := RX1) (T := TX1) (N := 4) (v := .ref na) hx hb hts in_X1 hown hT hI hc rfl 2 (by decide) (hts (.fieldLink RX1 18 "CopyRows$Row" "numbers" "[I") (by decide +kernel)) rfl dX1_order_4 ?_
  refine wr_alen hx hb hT hI hn 0 rfl dX1_order_7 ?_
  refine lv_icmp_ge (tgt := 62) hx hb dX1_order_8 (by decide) (fun c_1 => ?_) (fun c_1 => ?_)
  · have c_1 : n ≤ t := (nI_leI (a := n) (b := t) (by omega) (by omega)).mp c_1
    refine lv_aload_n hx hb dX1_order_62 rfl (lv_at hl 0 rfl) ?_
    refine wr_get (ci := 0) (C := RX1) (T := TX1) (N := 4) (v := .int (nI n)) hx hb hts in_X1 hown hT hI hc rfl 1 (by decide) (hts (.fieldLink RX1 15 "CopyRows$Row" "length" "I") (by decide +kernel)) rfl dX1_order_63 ?_
    refine lv_aload_n hx hb dX1_order_66 rfl (lv_at hl 1 rfl) ?_
    refine wr_get (ci := 0) (C := RX1) (T := TX1) (N := 4) (v := .int (nI n1)) hx hb hts in_X1 hown hT hI hc1 rfl 1 (by decide) (hts (.fieldLink RX1 15 "CopyRows$Row" "length" "I") (by decide +kernel)) rfl dX1_order_67 ?_
    refine lv_icmp_ne (tgt := 75) hx hb dX1_order_70 (by decide) (fun c_2 => ?_) (fun c_2 => ?_)
    · have c_2 : ¬ n = n1 := fun q => c_2 ((nI_eq (a := n) (b := n1) (by omega) (by omega)).mpr q)
      refine lv_aload_n hx hb dX1_order_75 rfl (lv_at hl 0 rfl) ?_
      refine wr_get (ci := 0) (C := RX1) (T := TX1) (N := 4) (v := .int (nI n)) hx hb hts in_X1 hown hT hI hc rfl 1 (by decide) (hts (.fieldLink RX1 15 "CopyRows$Row" "length" "I") (by decide +kernel)) rfl dX1_order_76 ?_
      refine lv_aload_n hx hb dX1_order_79 rfl (lv_at hl 1 rfl) ?_
      refine wr_get (ci := 0) (C := RX1) (T := TX1) (N := 4) (v := .int (nI n1)) hx hb hts in_X1 hown hT hI hc1 rfl 1 (by decide) (hts (.fieldLink RX1 15 "CopyRows$Row" "length" "I") (by decide +kernel)) rfl dX1_order_80 ?_
      refine lv_icmp_ge (tgt := 90) hx hb dX1_order_83 (by decide) (fun c_3 => ?_) (fun c_3 => ?_)
      · have c_3 : n1 ≤ n := (nI_leI (a := n1) (b := n) (by omega) (by omega)).mp c_3
        refine lv_iconst (v := 1) hx hb dX1_order_90 (by decide) ?_
        exact re_i hx hb hr hlocks hT hA hS hI (by
                    refine ⟨rfl, ?_⟩
                    rw [hcm]
                    cases hd : n - t with
                    | zero => simp only [cmpF]; first | (exfalso; omega) | rw [if_pos (by omega)] | rw [if_neg (by omega), if_pos (by omega)] | rw [if_neg (by omega), if_neg (by omega)]
                    | succ d => simp only [cmpF]; rw [if_neg (by omega)]; first | (exfalso; omega) | rw [if_pos (by omega)] | rw [if_neg (by omega), if_pos (by omega)] | rw [if_neg (by omega), if_neg (by omega)]) (Nat.le_of_ble_eq_true rfl) (Nat.le_of_ble_eq_true rfl) dX1_order_91
      · have c_3 : ¬ n1 ≤ n := fun q => c_3 ((nI_leI (a := n1) (b := n) (by omega) (by omega)).mpr q)
        refine lv_iconst (v := -1) hx hb dX1_order_86 (by decide) ?_
        refine lv_goto (tgt := 91) hx hb dX1_order_87 (by decide) ?_
        exact re_i hx hb hr hlocks hT hA hS hI (by
                    refine ⟨rfl, ?_⟩
                    rw [hcm]
                    cases hd : n - t with
                    | zero => simp only [cmpF]; first | (exfalso; omega) | rw [if_pos (by omega)] | rw [if_neg (by omega), if_pos (by omega)] | rw [if_neg (by omega), if_neg (by omega)]
                    | succ d => simp only [cmpF]; rw [if_neg (by omega)]; first | (exfalso; omega) | rw [if_pos (by omega)] | rw [if_neg (by omega), if_pos (by omega)] | rw [if_neg (by omega), if_neg (by omega)]) (Nat.le_of_ble_eq_true rfl) (Nat.le_of_ble_eq_true rfl) dX1_order_91
    · have c_2 : n = n1 := (nI_eq (a := n) (b := n1) (by omega) (by omega)).mp c_2
      refine lv_iconst (v := 0) hx hb dX1_order_73 (by decide) ?_
      exact re_i hx hb hr hlocks hT hA hS hI (by
                refine ⟨rfl, ?_⟩
                rw [hcm]
                cases hd : n - t with
                | zero => simp only [cmpF]; first | (exfalso; omega) | rw [if_pos (by omega)] | rw [if_neg (by omega), if_pos (by omega)] | rw [if_neg (by omega), if_neg (by omega)]
                | succ d => simp only [cmpF]; rw [if_neg (by omega)]; first | (exfalso; omega) | rw [if_pos (by omega)] | rw [if_neg (by omega), if_pos (by omega)] | rw [if_neg (by omega), if_neg (by omega)]) (Nat.le_of_ble_eq_true rfl) (Nat.le_of_ble_eq_true rfl) dX1_order_74
  · have c_1 : ¬ n ≤ t := fun q => c_1 ((nI_leI (a := n) (b := t) (by omega) (by omega)).mpr q)
    refine lv_iload_n hx hb dX1_order_11 rfl (lv_at hl 2 rfl) ?_
    refine lv_aload_n hx hb dX1_order_12 rfl (lv_at hl 1 rfl) ?_
    refine wr_get (ci := 0) (C := RX1) (T := TX1) (N := 4) (v := .ref na1) hx hb hts in_X1 hown hT hI hc1 rfl 2 (by decide) (hts (.fieldLink RX1 18 "CopyRows$Row" "numbers" "[I") (by decide +kernel)) rfl dX1_order_13 ?_
    refine wr_alen hx hb hT hI hn1 0 rfl dX1_order_16 ?_
    refine lv_icmp_ge (tgt := 62) hx hb dX1_order_17 (by decide) (fun c_4 => ?_) (fun c_4 => ?_)
    · have c_4 : n1 ≤ t := (nI_leI (a := n1) (b := t) (by omega) (by omega)).mp c_4
      refine lv_aload_n hx hb dX1_order_62 rfl (lv_at hl 0 rfl) ?_
      refine wr_get (ci := 0) (C := RX1) (T := TX1) (N := 4) (v := .int (nI n)) hx hb hts in_X1 hown hT hI hc rfl 1 (by decide) (hts (.fieldLink RX1 15 "CopyRows$Row" "length" "I") (by decide +kernel)) rfl dX1_order_63 ?_
      refine lv_aload_n hx hb dX1_order_66 rfl (lv_at hl 1 rfl) ?_
      refine wr_get (ci := 0) (C := RX1) (T := TX1) (N := 4) (v := .int (nI n1)) hx hb hts in_X1 hown hT hI hc1 rfl 1 (by decide) (hts (.fieldLink RX1 15 "CopyRows$Row" "length" "I") (by decide +kernel)) rfl dX1_order_67 ?_
      refine lv_icmp_ne (tgt := 75) hx hb dX1_order_70 (by decide) (fun c_5 => ?_) (fun c_5 => ?_)
      · have c_5 : ¬ n = n1 := fun q => c_5 ((nI_eq (a := n) (b := n1) (by omega) (by omega)).mpr q)
        refine lv_aload_n hx hb dX1_order_75 rfl (lv_at hl 0 rfl) ?_
        refine wr_get (ci := 0) (C := RX1) (T := TX1) (N := 4) (v := .int (nI n)) hx hb hts in_X1 hown hT hI hc rfl 1 (by decide) (hts (.fieldLink RX1 15 "CopyRows$Row" "length" "I") (by decide +kernel)) rfl dX1_order_76 ?_
        refine lv_aload_n hx hb dX1_order_79 rfl (lv_at hl 1 rfl) ?_
        refine wr_get (ci := 0) (C := RX1) (T := TX1) (N := 4) (v := .int (nI n1)) hx hb hts in_X1 hown hT hI hc1 rfl 1 (by decide) (hts (.fieldLink RX1 15 "CopyRows$Row" "length" "I") (by decide +kernel)) rfl dX1_order_80 ?_
        refine lv_icmp_ge (tgt := 90) hx hb dX1_order_83 (by decide) (fun c_6 => ?_) (fun c_6 => ?_)
        · have c_6 : n1 ≤ n := (nI_leI (a := n1) (b := n) (by omega) (by omega)).mp c_6
          refine lv_iconst (v := 1) hx hb dX1_order_90 (by decide) ?_
          exact re_i hx hb hr hlocks hT hA hS hI (by
                        refine ⟨rfl, ?_⟩
                        rw [hcm]
                        cases hd : n - t with
                        | zero => simp only [cmpF]; first | (exfalso; omega) | rw [if_pos (by omega)] | rw [if_neg (by omega), if_pos (by omega)] | rw [if_neg (by omega), if_neg (by omega)]
                        | succ d => simp only [cmpF]; rw [if_neg (by omega)]; first | (exfalso; omega) | rw [if_pos (by omega)] | rw [if_neg (by omega), if_pos (by omega)] | rw [if_neg (by omega), if_neg (by omega)]) (Nat.le_of_ble_eq_true rfl) (Nat.le_of_ble_eq_true rfl) dX1_order_91
        · have c_6 : ¬ n1 ≤ n := fun q => c_6 ((nI_leI (a := n1) (b := n) (by omega) (by omega)).mpr q)
          refine lv_iconst (v := -1) hx hb dX1_order_86 (by decide) ?_
          refine lv_goto (tgt := 91) hx hb dX1_order_87 (by decide) ?_
          exact re_i hx hb hr hlocks hT hA hS hI (by
                        refine ⟨rfl, ?_⟩
                        rw [hcm]
                        cases hd : n - t with
                        | zero => simp only [cmpF]; first | (exfalso; omega) | rw [if_pos (by omega)] | rw [if_neg (by omega), if_pos (by omega)] | rw [if_neg (by omega), if_neg (by omega)]
                        | succ d => simp only [cmpF]; rw [if_neg (by omega)]; first | (exfalso; omega) | rw [if_pos (by omega)] | rw [if_neg (by omega), if_pos (by omega)] | rw [if_neg (by omega), if_neg (by omega)]) (Nat.le_of_ble_eq_true rfl) (Nat.le_of_ble_eq_true rfl) dX1_order_91
      · have c_5 : n = n1 := (nI_eq (a := n) (b := n1) (by omega) (by omega)).mp c_5
        refine lv_iconst (v := 0) hx hb dX1_order_73 (by decide) ?_
        exact re_i hx hb hr hlocks hT hA hS hI (by
                    refine ⟨rfl, ?_⟩
                    rw [hcm]
                    cases hd : n - t with
                    | zero => simp only [cmpF]; first | (exfalso; omega) | rw [if_pos (by omega)] | rw [if_neg (by omega), if_pos (by omega)] | rw [if_neg (by omega), if_neg (by omega)]
                    | succ d => simp only [cmpF]; rw [if_neg (by omega)]; first | (exfalso; omega) | rw [if_pos (by omega)] | rw [if_neg (by omega), if_pos (by omega)] | rw [if_neg (by omega), if_neg (by omega)]) (Nat.le_of_ble_eq_true rfl) (Nat.le_of_ble_eq_true rfl) dX1_order_74
    · have c_4 : ¬ n1 ≤ t := fun q => c_4 ((nI_leI (a := n1) (b := t) (by omega) (by omega)).mpr q)
      refine lv_aload_n hx hb dX1_order_20 rfl (lv_at hl 0 rfl) ?_
      refine wr_get (ci := 0) (C := RX1) (T := TX1) (N := 4) (v := .ref na) hx hb hts in_X1 hown hT hI hc rfl 2 (by decide) (hts (.fieldLink RX1 18 "CopyRows$Row" "numbers" "[I") (by decide +kernel)) rfl dX1_order_21 ?_
      refine lv_iload_n hx hb dX1_order_24 rfl (lv_at hl 2 rfl) ?_
      refine wr_ialdN (t := t) (n := n) (f := f) hx hb hT hI hn (by omega) (by omega) dX1_order_25 ?_
      refine lv_aload_n hx hb dX1_order_26 rfl (lv_at hl 1 rfl) ?_
      refine wr_get (ci := 0) (C := RX1) (T := TX1) (N := 4) (v := .ref na1) hx hb hts in_X1 hown hT hI hc1 rfl 2 (by decide) (hts (.fieldLink RX1 18 "CopyRows$Row" "numbers" "[I") (by decide +kernel)) rfl dX1_order_27 ?_
      refine lv_iload_n hx hb dX1_order_30 rfl (lv_at hl 2 rfl) ?_
      refine wr_ialdN (t := t) (n := n1) (f := f1) hx hb hT hI hn1 (by omega) (by omega) dX1_order_31 ?_
      refine lv_icmp_eq (tgt := 56) hx hb dX1_order_32 (by decide) (fun c_7 => ?_) (fun c_7 => ?_)
      · refine lv_iinc (v := nI (t + 1)) (lv' := [(2, .int (nI (t + 1))), (0, .ref h0), (1, .ref h1)]) hx hb dX1_order_56 hl (k := 2) rfl (nI_1 _) (by decide) rfl (fun ls hl => ?_)
        refine lv_goto (tgt := 2) hx hb dX1_order_59 (by decide) ?_
        exact ih (t + 1) _ _ _ ⟨⟨by omega, by rw [hcm]; obtain ⟨d, hd⟩ : ∃ d, n - t = d + 1 := ⟨n - t - 1, by omega⟩; rw [hd, show n - (t + 1) = d by omega]; simp only [cmpF]; rw [if_pos (by omega), if_pos c_7]⟩, hI, hS, lv_sub hl [1, 2, 0] (rfl)⟩ (by omega)
      · refine lv_aload_n hx hb dX1_order_35 rfl (lv_at hl 0 rfl) ?_
        refine wr_get (ci := 0) (C := RX1) (T := TX1) (N := 4) (v := .ref na) hx hb hts in_X1 hown hT hI hc rfl 2 (by decide) (hts (.fieldLink RX1 18 "CopyRows$Row" "numbers" "[I") (by decide +kernel)) rfl dX1_order_36 ?_
        refine lv_iload_n hx hb dX1_order_39 rfl (lv_at hl 2 rfl) ?_
        refine wr_ialdN (t := t) (n := n) (f := f) hx hb hT hI hn (by omega) (by omega) dX1_order_40 ?_
        refine lv_aload_n hx hb dX1_order_41 rfl (lv_at hl 1 rfl) ?_
        refine wr_get (ci := 0) (C := RX1) (T := TX1) (N := 4) (v := .ref na1) hx hb hts in_X1 hown hT hI hc1 rfl 2 (by decide) (hts (.fieldLink RX1 18 "CopyRows$Row" "numbers" "[I") (by decide +kernel)) rfl dX1_order_42 ?_
        refine lv_iload_n hx hb dX1_order_45 rfl (lv_at hl 2 rfl) ?_
        refine wr_ialdN (t := t) (n := n1) (f := f1) hx hb hT hI hn1 (by omega) (by omega) dX1_order_46 ?_
        refine lv_icmp_ge (tgt := 54) hx hb dX1_order_47 (by decide) (fun c_8 => ?_) (fun c_8 => ?_)
        · refine lv_iconst (v := 1) hx hb dX1_order_54 (by decide) ?_
          exact re_i hx hb hr hlocks hT hA hS hI (by
                        refine ⟨rfl, ?_⟩
                        rw [hcm]
                        obtain ⟨d, hd⟩ : ∃ d, n - t = d + 1 := ⟨n - t - 1, by omega⟩
                        rw [hd]; simp only [cmpF]; rw [if_pos (by omega), if_neg c_7, if_neg (Int32.not_lt.mpr c_8)]) (Nat.le_of_ble_eq_true rfl) (Nat.le_of_ble_eq_true rfl) dX1_order_55
        · refine lv_iconst (v := -1) hx hb dX1_order_50 (by decide) ?_
          refine lv_goto (tgt := 55) hx hb dX1_order_51 (by decide) ?_
          exact re_i hx hb hr hlocks hT hA hS hI (by
                        refine ⟨rfl, ?_⟩
                        rw [hcm]
                        obtain ⟨d, hd⟩ : ∃ d, n - t = d + 1 := ⟨n - t - 1, by omega⟩
                        rw [hd]; simp only [cmpF]; rw [if_pos (by omega), if_neg c_7, if_pos (Int32.not_le.mp c_8)]) (Nat.le_of_ble_eq_true rfl) (Nat.le_of_ble_eq_true rfl) dX1_order_55

set_option maxHeartbeats 4000000 in
set_option maxRecDepth 100000 in
theorem cc_X1_countOf (l : Launch) (E : En) (A : Nat → Prop) (w : Wd) {h0 na qa : Nat} {kd ln : Int32} {z : Nat} {g : Nat → Option Nat} (b : Nat) (hz : z < 2 ^ 30) (hc : w h0 = some (eRow kd ln na qa)) (hn : w qa = some (eP E z g)) : Ct l yX1_countOf wsX1_countOf ({ frames := 0, cells := 0, slots := 0, locals := 0 } : Room) E A w [.ref h0, .ref b] (fun r w' => w = w' ∧ r = some (.int (nI (cntF g b z)))) 0 0 := by
  refine Met.ofW (cc := cX1_countOf) (maxL := 4) (ret := (some .int)) (by decide) rfl ?_
  intro pp0 ee0 s m args below meth cc0 s₁ B hml hv
  obtain ⟨rfl, hT, hI, hA⟩ := hv
  have hx := B.exec
  have hb := B.bytes
  have hr := B.returns
  have hts := atoms_spec (ws := wsX1_countOf) B.pre
  have hown : s.vm.findClass RX1 = some m.cls := findClass_of_methodNamed B.named
  have hlocks := B.notSynchronized
  have in_X1 : ∀ w ∈ wsX10, w ∈ wsX1_countOf := by decide +kernel
  have hS : va_S A s.heap s.heap [] := va_S.rf
  have hl := lv_entry ([.ref h0, .ref b]) (n := 4) (Nat.le_of_ble_eq_true rfl)
  rw [lg_entry_eq]
  generalize (lg_sl ([.ref h0, .ref b]) ++ List.replicate (4 - (lg_sl ([.ref h0, .ref b])).length) Slot.unset).toArray = ls at hl ⊢
  have hl : lv_has ls 4 [(0, .ref h0), (1, .ref b)] := hl
  refine lv_iconst (v := 0) hx hb dX1_countOf_0 (by decide) ?_
  refine lv_istore_n (lv' := [(2, .int 0), (0, .ref h0), (1, .ref b)]) hx hb dX1_countOf_1 rfl hl (by decide) rfl (fun ls hl => ?_)
  refine lv_iconst (v := 0) hx hb dX1_countOf_2 (by decide) ?_
  refine lv_istore_n (lv' := [(3, .int 0), (2, .int 0), (0, .ref h0), (1, .ref b)]) hx hb dX1_countOf_3 rfl hl (by decide) rfl (fun ls hl => ?_)
  refine lp_w (ι := Nat) (fun t => z - t) (fun t H locs ls => (t ≤ z) ∧ Hv E A w H ∧ va_S A s.heap H locs ∧ lv_has ls 4 [(0, .ref h0), (1, .ref b), (2, .int (nI (cntF g b t))), (3, .int (nI t))]) ?_ 0 _ _ _ ⟨Nat.zero_le _, hI, hS, lv_sub hl [2, 3, 1, 0] (rfl)⟩
  intro t H locs ls hq ih
  obtain ⟨ht, hI, hS, hl⟩ := hq
  refine lv_iload_n hx hb dX1_countOf_4 rfl (lv_at hl 3 rfl) ?_
  refine lv_aload_n hx hb dX1_countOf_5 rfl (lv_at hl 0 rfl) ?_
  refine wr_get (ci := 0) (C := RX1) (T := TX1) (N := 4) (v := .ref qa) hx hb hts in_X1 hown hT hI hc rfl 3 (by decide) (hts (.fieldLink RX1 22 "CopyRows$Row" "parts" "[LCopyRows$Part;") (by decide +kernel)) rfl dX1_countOf_6 ?_
  refine wr_alen hx hb hT hI hn 1 rfl dX1_countOf_9 ?_
  refine lv_icmp_ge (tgt := 32) hx hb dX1_countOf_10 (by decide) (fun c_1 => ?_) (fun c_1 => ?_)
  · have c_1 : z ≤ t := (nI_leI (a := z) (b := t) (by omega) (by omega)).mp c_1
    refine lv_iload_n hx hb dX1_countOf_32 rfl (lv_at hl 2 rfl) ?_
    exact re_i hx hb hr hlocks hT hA hS hI (by
            have e : t = z := by omega
            subst e
            exact ⟨rfl, rfl⟩) (Nat.le_of_ble_eq_true rfl) (Nat.le_of_ble_eq_true rfl) dX1_countOf_33
  · have c_1 : ¬ z ≤ t := fun q => c_1 ((nI_leI (a := z) (b := t) (by omega) (by omega)).mpr q)
    refine lv_aload_n hx hb dX1_countOf_13 rfl (lv_at hl 0 rfl) ?_
    refine wr_get (ci := 0) (C := RX1) (T := TX1) (N := 4) (v := .ref qa) hx hb hts in_X1 hown hT hI hc rfl 3 (by decide) (hts (.fieldLink RX1 22 "CopyRows$Row" "parts" "[LCopyRows$Part;") (by decide +kernel)) rfl dX1_countOf_14 ?_
    refine lv_iload_n hx hb dX1_countOf_17 rfl (lv_at hl 3 rfl) ?_
    refine wr_aaldN (t := t) (n := z) (f := g) hx hb hT hI hn 1 rfl (by omega) (by omega) dX1_countOf_18 ?_
    refine lv_aload_n hx hb dX1_countOf_19 rfl (lv_at hl 1 rfl) ?_
    refine W.eq (g2 := F0 m 20 ls (va_rf (some b) :: va_rf (g t) :: [])) rfl ?_
    refine lv_acmp_ne (tgt := 26) hx hb dX1_countOf_20 (by decide) (fun c_2 => ?_) (fun c_2 => ?_)
    · refine lv_iinc (v := nI (t + 1)) (lv' := [(3, .int (nI (t + 1))), (0, .ref h0), (1, .ref b), (2, .int (nI (cntF g b t)))]) hx hb dX1_countOf_26 hl (k := 3) rfl (nI_1 _) (by decide) rfl (fun ls hl => ?_)
      refine lv_goto (tgt := 4) hx hb dX1_countOf_29 (by decide) ?_
      exact ih (t + 1) _ _ _ ⟨by omega, hI, hS, lv_sub hl [1, 2, 3, 0] (by simp [lv_pick, cntF, c_2])⟩ (by omega)
    · refine lv_iinc (v := nI (cntF g b t + 1)) (lv' := [(2, .int (nI (cntF g b t + 1))), (0, .ref h0), (1, .ref b), (3, .int (nI t))]) hx hb dX1_countOf_23 hl (k := 2) rfl (nI_1 _) (by decide) rfl (fun ls hl => ?_)
      refine lv_iinc (v := nI (t + 1)) (lv' := [(3, .int (nI (t + 1))), (2, .int (nI (cntF g b t + 1))), (0, .ref h0), (1, .ref b)]) hx hb dX1_countOf_26 hl (k := 3) rfl (nI_1 _) (by decide) rfl (fun ls hl => ?_)
      refine lv_goto (tgt := 4) hx hb dX1_countOf_29 (by decide) ?_
      exact ih (t + 1) _ _ _ ⟨by omega, hI, hS, lv_sub hl [2, 3, 1, 0] (by simp [lv_pick, cntF, c_2])⟩ (by omega)
