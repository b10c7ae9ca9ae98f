/-! which cells are the same -/
theorem Rp.aR_inj {E : En} {S : Sx} {D : Ad} {w : Wd} (h : Rp E S D w) {v u : Int32} (hv : vO S v) (hu : vO S u) (e : aR D v = aR D u) : v = u := by
  have h1 := (h.2.2.2.2.2.2.1 v hv).1
  have h2 := (h.2.2.2.2.2.2.1 u hu).1
  rw [e, h2] at h1
  exact (congrArg Prod.snd h1).symm
theorem Rp.aT_inj {E : En} {S : Sx} {D : Ad} {w : Wd} (h : Rp E S D w) {v u : Int32} (hv : vT S v) (hu : vT S u) (e : aT D v = aT D u) : v = u := by
  have h1 := h.2.2.2.2.2.2.2 v hv
  have h2 := h.2.2.2.2.2.2.2 u hu
  rw [e, h2] at h1
  exact (congrArg Prod.snd h1).symm
theorem Rp.aT_ne {E : En} {S : Sx} {D : Ad} {w : Wd} (h : Rp E S D w) {v u : Int32} (hv : vT S v) (hu : vO S u) : aT D v ≠ aR D u := fun e => by
  have h1 := h.2.2.2.2.2.2.2 v hv
  have h2 := (h.2.2.2.2.2.2.1 u hu).1
  rw [e, h2] at h1
  exact absurd (congrArg Prod.fst h1) (show ¬ (0 : Nat) = 3 by decide)
theorem Rp.pl_inj {E : En} {S : Sx} {D : Ad} {w : Wd} (h : Rp E S D w) {v u : Int32} (hv : v = -1 ∨ vO S v) (hu : u = -1 ∨ vO S u) : plO D v = plO D u ↔ v = u := by
  refine ⟨fun e => ?_, fun e => by rw [e]⟩
  unfold plO at e
  by_cases h1 : v = -1
  · by_cases h2 : u = -1
    · rw [h1, h2]
    · rw [if_pos h1, if_neg h2] at e; cases e
  · by_cases h2 : u = -1
    · rw [if_neg h1, if_pos h2] at e; cases e
    · rw [if_neg h1, if_neg h2] at e
      exact h.aR_inj (hv.resolve_left h1) (hu.resolve_left h2) (Option.some.inj e)
theorem Rp.like {E : En} {S : Sx} {D : Ad} {w : Wd} (h : Rp E S D w) (hW : Wf S) {v u : Int32} (hv : vR S v) (hu : vO S u) (hk : ¬ isN (kdv S v)) (h6 : ¬ kdv S v = 6) : (kdv S v = kdv S u ∧ lnv S v = lnv S u ∧ ∀ k, k < lnv S v → pO D (kdv S v) (itv S v k) = pO D (kdv S u) (itv S u k)) ↔ (kdv S v = kdv S u ∧ lnv S v = lnv S u ∧ ∀ k, k < lnv S v → itv S v k = itv S u k) := by
  refine ⟨fun ⟨a, b, c⟩ => ⟨a, b, fun k q => ?_⟩, fun ⟨a, b, c⟩ => ⟨a, b, fun k q => by rw [c k q, a]⟩⟩
  have hur : vR S u := vO_row hu (by rw [← a]; exact h6)
  have e := c k q
  rcases hW.part D hv hk k with ⟨e1, e2⟩ | ⟨e1, e3, x1, -, e2⟩ | ⟨e1, e3, x1, e2⟩ <;> rcases hW.part D hur (by rw [← a]; exact hk) k with ⟨f1, f2⟩ | ⟨f1, f3, y1, -, f2⟩ | ⟨f1, f3, y1, f2⟩ <;> rw [e2, f2] at e
  · rw [e1, f1]
  · cases e
  · cases e
  · cases e
  · exact h.aR_inj (Or.inl x1) (Or.inl y1) (Option.some.inj e)
  · exact absurd (a ▸ e3) f3
  · cases e
  · exact absurd (a ▸ f3) e3
  · exact h.aT_inj x1 y1 (Option.some.inj e)
theorem cnt_eq {g : Nat → Option Nat} {b : Nat} {f : Nat → Int32} {v : Int32} (h : ∀ k, g k = some b ↔ f k = v) : ∀ n, cntF g b n = cntI f v n
  | 0 => rfl
  | n + 1 => by
    simp only [cntF, cntI]
    rw [cnt_eq h n]
    by_cases e : f n = v
    · rw [if_pos e, if_pos ((h n).mpr e)]
    · rw [if_neg e, if_neg (fun q => e ((h n).mp q))]
theorem cnt_none {g : Nat → Option Nat} {b : Nat} (h : ∀ k, ¬ g k = some b) : ∀ n, cntF g b n = 0
  | 0 => rfl
  | n + 1 => by
    simp only [cntF]
    rw [cnt_none h n, if_neg (h n)]
theorem Rp.count {E : En} {S : Sx} {D : Ad} {w : Wd} (h : Rp E S D w) (hW : Wf S) {u v : Int32} (hu : vO S u) (hv : vO S v) (hv1 : ¬ v = -1) : cntF (pav S D u) (aR D v) (pz (kdv S u) (lnv S u)) = if kdv S u = 2 then cntI (itv S u) v (lnv S u) else 0 := by
  by_cases hk : isN (kdv S u)
  · rw [show pz (kdv S u) (lnv S u) = 0 from if_pos hk, if_neg (isN_lt hk).2]; rfl
  · rw [show pz (kdv S u) (lnv S u) = lnv S u from if_neg hk]
    have ep : pav S D u = fun k => pO D (kdv S u) (itv S u k) := by unfold pav; rw [if_neg hk]
    rw [ep]
    by_cases h6 : kdv S u = 6
    · have hl : ¬ vR S u := fun e => by
        have := (hW.row e).1.2
        rw [h6] at this
        exact absurd this (by decide)
      have hneg := vL_neg (hu.resolve_left hl)
      rw [if_neg (by rw [h6]; decide), show lnv S u = 0 from if_pos hneg]; rfl
    · have hr := vO_row hu h6
      by_cases h2 : kdv S u = 2
      · rw [if_pos h2]
        refine cnt_eq (fun k => ?_) _
        rcases hW.part D hr hk k with ⟨e1, e2⟩ | ⟨e1, e3, x1, -, e2⟩ | ⟨e1, e3, x1, e2⟩ <;> rw [e2]
        · constructor
          · intro q; cases q
          · intro q; rw [e1] at q; exact absurd q.symm hv1
        · constructor
          · intro q; exact h.aR_inj (Or.inl x1) hv (Option.some.inj q)
          · intro q; rw [q]
        · exact absurd h2 e3
      · rw [if_neg h2]
        refine cnt_none (fun k => ?_) _
        rcases hW.part D hr hk k with ⟨e1, e2⟩ | ⟨e1, e3, x1, -, e2⟩ | ⟨e1, e3, x1, e2⟩ <;> rw [e2]
        · intro q; cases q
        · exact absurd e3 h2
        · intro q; exact h.aT_ne x1 hv (Option.some.inj q)
theorem hldF_le (S : Sx) (hW : Wf S) (v : Int32) : ∀ n, hldF S v n ≤ 41 * n
  | 0 => Nat.le_refl _
  | n + 1 => by
    have h := hldF_le S hW v n
    have hc : ∀ (f : Nat → Int32) (n : Nat), cntI f v n ≤ n := by
      intro f n
      induction n with
      | zero => exact Nat.le_refl _
      | succ n ih => simp only [cntI]; split <;> omega
    simp only [hldF]
    have h2 : (if ¬ sPl S n = -1 ∧ kdv S (sPl S n) = 2 ∧ frs S n then cntI (itv S (sPl S n)) v (lnv S (sPl S n)) else 0) ≤ 40 := by
      split
      · rename_i q
        have := hc (itv S (sPl S n)) (lnv S (sPl S n))
        have := hW.ln ((hW.1 n).resolve_left q.1)
        omega
      · omega
    have h3 : (if sPl S n = v then 1 else 0) ≤ 1 := by split <;> omega
    omega
set_option maxHeartbeats 4000000 in
set_option maxRecDepth 100000 in
theorem cc_X3_update (l : Launch) (E : En) (A : Nat → Prop) (w : Wd) {S : Sx} {D : Ad} (p q u : Int32) (hW : Wf S) (hR : Rp E S D w) (hb9 : sNr S < 512 ∧ sNt S < 512 ∧ sNl S < 512) : Ct l yX3_update wsX3_update ({ frames := 1, cells := 0, slots := 0, locals := 21 } : Room) E A w [.ref (aH D), .int p, .int q, .int u] (fun r w' => PoC E D (sp_update S p q u) r w') 0 0 := by
  refine Met.ofW (cc := cX3_update) (maxL := 9) (ret := (some .int)) (by decide) rfl ?_
  intro pp0 ee0 s m args below meth cc0 s₁ B hml hv
  obtain ⟨rfl, hT, hI, hA⟩ := hv
  have hx := B.exec
  have hb := B.bytes
  have hr := B.returns
  have hts := atoms_spec (ws := wsX3_update) B.pre
  have hown : s.vm.findClass RX3 = some m.cls := findClass_of_methodNamed B.named
  have hlocks := B.notSynchronized
  have in_X1 : ∀ w ∈ wsX10, w ∈ wsX3_update := by decide +kernel
  have in_X3 : ∀ w ∈ wsX30, w ∈ wsX3_update := by decide +kernel
  have hS : va_S A s.heap s.heap [] := va_S.rf
  have hl := lv_entry ([.ref (aH D), .int p, .int q, .int u]) (n := 9) (Nat.le_of_ble_eq_true rfl)
  rw [lg_entry_eq]
  generalize (lg_sl ([.ref (aH D), .int p, .int q, .int u]) ++ List.replicate (9 - (lg_sl ([.ref (aH D), .int p, .int q, .int u])).length) Slot.unset).toArray = ls at hl ⊢
  have hl : lv_has ls 9 [(0, .ref (aH D)), (1, .int p), (2, .int q), (3, .int u)] := hl
  refine lv_iload_n hx hb dX3_update_0 rfl (lv_at hl 1 rfl) ?_
  refine ca_S (As := [.int p]) (rest := []) ⟨hx, hb, hml, hown, hts⟩ (cc_X3_isOutside l E A _ p) (va_cwS 1 hts gX3_update_X3_isOutside rfl rfl rfl (by decide +kernel) ⟨(Nat.le_of_ble_eq_true rfl), (Nat.le_of_ble_eq_true rfl)⟩) hT hI hA hS rfl rfl hl.1 (Nat.le_of_ble_eq_true rfl) dX3_update_1 ⟨(Nat.le_of_ble_eq_true rfl), (Nat.le_of_ble_eq_true rfl)⟩ (fun r w_2 H locs hp_1 hI hS => ?_)
  obtain ⟨rfl, ⟨ho_3, rfl⟩ | ⟨ho_3, rfl⟩⟩ := hp_1
  · refine W.eq (g2 := F0 m 4 ls [.int 1]) rfl ?_
    refine lv_if_ne (tgt := 21) hx hb dX3_update_4 (by decide) (fun _ => ?_) (fun c => absurd c (by decide))
    refine lv_ldc (v := -2000000001) hx hb hown (hts (.constant RX3 23 (-2000000001)) (by decide +kernel)) dX3_update_21 ?_
    exact re_i hx hb hr hlocks hT hA hS hI (PoC.of (by
            unfold sp_update
            rw [if_pos (Or.inl ho_3)]) hR rfl) (Nat.le_of_ble_eq_true rfl) (Nat.le_of_ble_eq_true rfl) dX3_update_23
  · refine W.eq (g2 := F0 m 4 ls [.int 0]) rfl ?_
    refine lv_if_ne (tgt := 21) hx hb dX3_update_4 (by decide) (fun c => absurd c (by decide)) (fun _ => ?_)
    refine lv_iload_n hx hb dX3_update_7 rfl (lv_at hl 2 rfl) ?_
    refine ca_S (As := [.int q]) (rest := []) ⟨hx, hb, hml, hown, hts⟩ (cc_X3_isOutside l E A _ q) (va_cwS 1 hts gX3_update_X3_isOutside rfl rfl rfl (by decide +kernel) ⟨(Nat.le_of_ble_eq_true rfl), (Nat.le_of_ble_eq_true rfl)⟩) hT hI hA hS rfl rfl hl.1 (Nat.le_of_ble_eq_true rfl) dX3_update_8 ⟨(Nat.le_of_ble_eq_true rfl), (Nat.le_of_ble_eq_true rfl)⟩ (fun r w_5 H locs hp_4 hI hS => ?_)
    obtain ⟨rfl, ⟨ho_6, rfl⟩ | ⟨ho_6, rfl⟩⟩ := hp_4
    · refine W.eq (g2 := F0 m 11 ls [.int 1]) rfl ?_
      refine lv_if_ne (tgt := 21) hx hb dX3_update_11 (by decide) (fun _ => ?_) (fun c => absurd c (by decide))
      refine lv_ldc (v := -2000000001) hx hb hown (hts (.constant RX3 23 (-2000000001)) (by decide +kernel)) dX3_update_21 ?_
      exact re_i hx hb hr hlocks hT hA hS hI (PoC.of (by
                unfold sp_update
                rw [if_pos (Or.inr (Or.inl ho_6))]) hR rfl) (Nat.le_of_ble_eq_true rfl) (Nat.le_of_ble_eq_true rfl) dX3_update_23
    · refine W.eq (g2 := F0 m 11 ls [.int 0]) rfl ?_
      refine lv_if_ne (tgt := 21) hx hb dX3_update_11 (by decide) (fun c => absurd c (by decide)) (fun _ => ?_)
      refine lv_iload_n hx hb dX3_update_14 rfl (lv_at hl 3 rfl) ?_
      refine ca_S (As := [.int u]) (rest := []) ⟨hx, hb, hml, hown, hts⟩ (cc_X3_isOutside l E A _ u) (va_cwS 1 hts gX3_update_X3_isOutside rfl rfl rfl (by decide +kernel) ⟨(Nat.le_of_ble_eq_true rfl), (Nat.le_of_ble_eq_true rfl)⟩) hT hI hA hS rfl rfl hl.1 (Nat.le_of_ble_eq_true rfl) dX3_update_15 ⟨(Nat.le_of_ble_eq_true rfl), (Nat.le_of_ble_eq_true rfl)⟩ (fun r w_8 H locs hp_7 hI hS => ?_)
      obtain ⟨rfl, ⟨ho_9, rfl⟩ | ⟨ho_9, rfl⟩⟩ := hp_7
      · refine W.eq (g2 := F0 m 18 ls [.int 1]) rfl ?_
        refine lv_if_eq (tgt := 24) hx hb dX3_update_18 (by decide) (fun c => absurd c (by decide)) (fun _ => ?_)
        refine lv_ldc (v := -2000000001) hx hb hown (hts (.constant RX3 23 (-2000000001)) (by decide +kernel)) dX3_update_21 ?_
        exact re_i hx hb hr hlocks hT hA hS hI (PoC.of (by
                    unfold sp_update
                    rw [if_pos (Or.inr (Or.inr (ho_9)))]) hR rfl) (Nat.le_of_ble_eq_true rfl) (Nat.le_of_ble_eq_true rfl) dX3_update_23
      · refine W.eq (g2 := F0 m 18 ls [.int 0]) rfl ?_
        refine lv_if_eq (tgt := 24) hx hb dX3_update_18 (by decide) (fun _ => ?_) (fun c => absurd c (by decide))
        obtain ⟨pj, hpj, rfl⟩ := isP_nat ho_3
        obtain ⟨qj, hqj, rfl⟩ := isP_nat ho_6
        obtain ⟨uj, huj, rfl⟩ := isP_nat ho_9
        refine lv_aload_n hx hb dX3_update_24 rfl (lv_at hl 0 rfl) ?_
        refine wr_get (ci := 2) (C := RX3) (T := TX3) (N := 2) (v := .ref (aP D)) hx hb hts in_X3 hown hT hI hR.1 rfl 0 (by decide) (hts (.fieldLink RX3 11 "CopyRows" "places" "[LCopyRows$Row;") (by decide +kernel)) rfl dX3_update_25 ?_
        refine lv_iload_n hx hb dX3_update_28 rfl (lv_at hl 1 rfl) ?_
        refine wr_aaldN (t := pj) hx hb hT hI hR.2.1 2 rfl (by omega) (by omega) dX3_update_29 ?_
        rcases hW.pl D pj with ⟨ez10, ep10⟩ | ⟨ez10, hv10, ep10⟩
        · refine W.eq (g2 := F0 m 30 ls [.null]) (by rw [ep10]; rfl) ?_
          refine lv_astoreN (lv' := [(4, .null), (0, .ref (aH D)), (1, .int (nI pj)), (2, .int (nI qj)), (3, .int (nI uj))]) hx hb dX3_update_30 hl (by decide) rfl (fun ls hl => ?_)
          refine lv_aload_n hx hb dX3_update_32 rfl (lv_at hl 1 rfl) ?_
          refine wr_get (ci := 2) (C := RX3) (T := TX3) (N := 2) (v := .ref (aP D)) hx hb hts in_X3 hown hT hI hR.1 rfl 0 (by decide) (hts (.fieldLink RX3 11 "CopyRows" "places" "[LCopyRows$Row;") (by decide +kernel)) rfl dX3_update_33 ?_
          refine lv_iload_n hx hb dX3_update_36 rfl (lv_at hl 3 rfl) ?_
          refine wr_aaldN (t := qj) hx hb hT hI hR.2.1 2 rfl (by omega) (by omega) dX3_update_37 ?_
          rcases hW.pl D qj with ⟨ez11, ep11⟩ | ⟨ez11, hv11, ep11⟩
          · refine W.eq (g2 := F0 m 38 ls [.null]) (by rw [ep11]; rfl) ?_
            refine lv_astoreN (lv' := [(5, .null), (4, .null), (0, .ref (aH D)), (1, .int (nI pj)), (2, .int (nI qj)), (3, .int (nI uj))]) hx hb dX3_update_38 hl (by decide) rfl (fun ls hl => ?_)
            refine lv_aload_n hx hb dX3_update_40 rfl (lv_at hl 2 rfl) ?_
            refine wr_get (ci := 2) (C := RX3) (T := TX3) (N := 2) (v := .ref (aP D)) hx hb hts in_X3 hown hT hI hR.1 rfl 0 (by decide) (hts (.fieldLink RX3 11 "CopyRows" "places" "[LCopyRows$Row;") (by decide +kernel)) rfl dX3_update_41 ?_
            refine lv_iload_n hx hb dX3_update_44 rfl (lv_at hl 5 rfl) ?_
            refine wr_aaldN (t := uj) hx hb hT hI hR.2.1 2 rfl (by omega) (by omega) dX3_update_45 ?_
            rcases hW.pl D uj with ⟨ez12, ep12⟩ | ⟨ez12, hv12, ep12⟩
            · refine W.eq (g2 := F0 m 46 ls [.null]) (by rw [ep12]; rfl) ?_
              refine lv_astoreN (lv' := [(6, .null), (5, .null), (4, .null), (0, .ref (aH D)), (1, .int (nI pj)), (2, .int (nI qj)), (3, .int (nI uj))]) hx hb dX3_update_46 hl (by decide) rfl (fun ls hl => ?_)
              refine lv_aloadN hx hb dX3_update_48 (lv_at hl 2 rfl) ?_
              refine lv_ifnullN (tgt := 63) hx hb dX3_update_50 (by decide) ?_
              refine lv_aload_n hx hb dX3_update_63 rfl (lv_at hl 3 rfl) ?_
              refine lv_iconst (v := 1) hx hb dX3_update_64 (by decide) ?_
              refine ca_V (As := [.int 1]) (rest := []) (r0 := (RX3, TX3, 2)) (ci := 2) ⟨hx, hb, hml, hown, hts⟩ (cc_X3_fail l E A _ 1 hR) (cwV 1 hts gX3_update_X3_fail rfl rfl rfl (by decide +kernel) ⟨(Nat.le_of_ble_eq_true rfl), (Nat.le_of_ble_eq_true rfl)⟩) hT hI hA hS rfl hR.1 rfl rfl hl.1 (Nat.le_of_ble_eq_true rfl) dX3_update_65 ⟨(Nat.le_of_ble_eq_true rfl), (Nat.le_of_ble_eq_true rfl)⟩ (fun r w_14 H locs hp_13 hI hS => ?_)
              obtain ⟨rfl, hR⟩ := hp_13
              refine W.eq (g2 := F0 m 68 ls [.int 0]) rfl ?_
              exact re_i hx hb hr hlocks hT hA hS hI (PoC.of (by
                                unfold sp_update
                                try simp only [pv_nI hpj, pv_nI hqj, pv_nI huj]
                                rw [if_neg ((fun q => q.elim ho_3 (fun q => q.elim ho_6 ho_9))), if_pos (Or.inl ez10)]) hR rfl) (Nat.le_of_ble_eq_true rfl) (Nat.le_of_ble_eq_true rfl) dX3_update_68
            · refine W.eq (g2 := F0 m 46 ls [.ref (aR D (sPl S uj))]) (by rw [ep12]; rfl) ?_
              refine lv_astore (lv' := [(6, .ref (aR D (sPl S uj))), (5, .null), (4, .null), (0, .ref (aH D)), (1, .int (nI pj)), (2, .int (nI qj)), (3, .int (nI uj))]) hx hb dX3_update_46 hl (by decide) rfl (fun ls hl => ?_)
              refine lv_aloadN hx hb dX3_update_48 (lv_at hl 2 rfl) ?_
              refine lv_ifnullN (tgt := 63) hx hb dX3_update_50 (by decide) ?_
              refine lv_aload_n hx hb dX3_update_63 rfl (lv_at hl 3 rfl) ?_
              refine lv_iconst (v := 1) hx hb dX3_update_64 (by decide) ?_
              refine ca_V (As := [.int 1]) (rest := []) (r0 := (RX3, TX3, 2)) (ci := 2) ⟨hx, hb, hml, hown, hts⟩ (cc_X3_fail l E A _ 1 hR) (cwV 1 hts gX3_update_X3_fail rfl rfl rfl (by decide +kernel) ⟨(Nat.le_of_ble_eq_true rfl), (Nat.le_of_ble_eq_true rfl)⟩) hT hI hA hS rfl hR.1 rfl rfl hl.1 (Nat.le_of_ble_eq_true rfl) dX3_update_65 ⟨(Nat.le_of_ble_eq_true rfl), (Nat.le_of_ble_eq_true rfl)⟩ (fun r w_16 H locs hp_15 hI hS => ?_)
              obtain ⟨rfl, hR⟩ := hp_15
              refine W.eq (g2 := F0 m 68 ls [.int 0]) rfl ?_
              exact re_i hx hb hr hlocks hT hA hS hI (PoC.of (by
                                unfold sp_update
                                try simp only [pv_nI hpj, pv_nI hqj, pv_nI huj]
                                rw [if_neg ((fun q => q.elim ho_3 (fun q => q.elim ho_6 ho_9))), if_pos (Or.inl ez10)]) hR rfl) (Nat.le_of_ble_eq_true rfl) (Nat.le_of_ble_eq_true rfl) dX3_update_68
          · refine W.eq (g2 := F0 m 38 ls [.ref (aR D (sPl S qj))]) (by rw [ep11]; rfl) ?_
            refine lv_astore (lv' := [(5, .ref (aR D (sPl S qj))), (4, .null), (0, .ref (aH D)), (1, .int (nI pj)), (2, .int (nI qj)), (3, .int (nI uj))]) hx hb dX3_update_38 hl (by decide) rfl (fun ls hl => ?_)
            refine lv_aload_n hx hb dX3_update_40 rfl (lv_at hl 2 rfl) ?_
            refine wr_get (ci := 2) (C := RX3) (T := TX3) (N := 2) (v := .ref (aP D)) hx hb hts in_X3 hown hT hI hR.1 rfl 0 (by decide) (hts (.fieldLink RX3 11 "CopyRows" "places" "[LCopyRows$Row;") (by decide +kernel)) rfl dX3_update_41 ?_
            refine lv_iload_n hx hb dX3_update_44 rfl (lv_at hl 5 rfl) ?_
            refine wr_aaldN (t := uj) hx hb hT hI hR.2.1 2 rfl (by omega) (by omega) dX3_update_45 ?_
            rcases hW.pl D uj with ⟨ez17, ep17⟩ | ⟨ez17, hv17, ep17⟩
            · refine W.eq (g2 := F0 m 46 ls [.null]) (by rw [ep17]; rfl) ?_
              refine lv_astoreN (lv' := [(6, .null), (5, .ref (aR D (sPl S qj))), (4, .null), (0, .ref (aH D)), (1, .int (nI pj)), (2, .int (nI qj)), (3, .int (nI uj))]) hx hb dX3_update_46 hl (by decide) rfl (fun ls hl => ?_)
              refine lv_aloadN hx hb dX3_update_48 (lv_at hl 2 rfl) ?_
              refine lv_ifnullN (tgt := 63) hx hb dX3_update_50 (by decide) ?_
              refine lv_aload_n hx hb dX3_update_63 rfl (lv_at hl 3 rfl) ?_
              refine lv_iconst (v := 1) hx hb dX3_update_64 (by decide) ?_
              refine ca_V (As := [.int 1]) (rest := []) (r0 := (RX3, TX3, 2)) (ci := 2) ⟨hx, hb, hml, hown, hts⟩ (cc_X3_fail l E A _ 1 hR) (cwV 1 hts gX3_update_X3_fail rfl rfl rfl (by decide +kernel) ⟨(Nat.le_of_ble_eq_true rfl), (Nat.le_of_ble_eq_true rfl)⟩) hT hI hA hS rfl hR.1 rfl rfl hl.1 (Nat.le_of_ble_eq_true rfl) dX3_update_65 ⟨(Nat.le_of_ble_eq_true rfl), (Nat.le_of_ble_eq_true rfl)⟩ (fun r w_19 H locs hp_18 hI hS => ?_)
              obtain ⟨rfl, hR⟩ := hp_18
              refine W.eq (g2 := F0 m 68 ls [.int 0]) rfl ?_
              exact re_i hx hb hr hlocks hT hA hS hI (PoC.of (by
                                unfold sp_update
                                try simp only [pv_nI hpj, pv_nI hqj, pv_nI huj]
                                rw [if_neg ((fun q => q.elim ho_3 (fun q => q.elim ho_6 ho_9))), if_pos (Or.inl ez10)]) hR rfl) (Nat.le_of_ble_eq_true rfl) (Nat.le_of_ble_eq_true rfl) dX3_update_68
            · refine W.eq (g2 := F0 m 46 ls [.ref (aR D (sPl S uj))]) (by rw [ep17]; rfl) ?_
              refine lv_astore (lv' := [(6, .ref (aR D (sPl S uj))), (5, .ref (aR D (sPl S qj))), (4, .null), (0, .ref (aH D)), (1, .int (nI pj)), (2, .int (nI qj)), (3, .int (nI uj))]) hx hb dX3_update_46 hl (by decide) rfl (fun ls hl => ?_)
              refine lv_aloadN hx hb dX3_update_48 (lv_at hl 2 rfl) ?_
              refine lv_ifnullN (tgt := 63) hx hb dX3_update_50 (by decide) ?_
              refine lv_aload_n hx hb dX3_update_63 rfl (lv_at hl 3 rfl) ?_
              refine lv_iconst (v := 1) hx hb dX3_update_64 (by decide) ?_
              refine ca_V (As := [.int 1]) (rest := []) (r0 := (RX3, TX3, 2)) (ci := 2) ⟨hx, hb, hml, hown, hts⟩ (cc_X3_fail l E A _ 1 hR) (cwV 1 hts gX3_update_X3_fail rfl rfl rfl (by decide +kernel) ⟨(Nat.le_of_ble_eq_true rfl), (Nat.le_of_ble_eq_true rfl)⟩) hT hI hA hS rfl hR.1 rfl rfl hl.1 (Nat.le_of_ble_eq_true rfl) dX3_update_65 ⟨(Nat.le_of_ble_eq_true rfl), (Nat.le_of_ble_eq_true rfl)⟩ (fun r w_21 H locs hp_20 hI hS => ?_)
              obtain ⟨rfl, hR⟩ := hp_20
              refine W.eq (g2 := F0 m 68 ls [.int 0]) rfl ?_
              exact re_i hx hb hr hlocks hT hA hS hI (PoC.of (by
                                unfold sp_update
                                try simp only [pv_nI hpj, pv_nI hqj, pv_nI huj]
                                rw [if_neg ((fun q => q.elim ho_3 (fun q => q.elim ho_6 ho_9))), if_pos (Or.inl ez10)]) hR rfl) (Nat.le_of_ble_eq_true rfl) (Nat.le_of_ble_eq_true rfl) dX3_update_68
        · refine W.eq (g2 := F0 m 30 ls [.ref (aR D (sPl S pj))]) (by rw [ep10]; rfl) ?_
          refine lv_astore (lv' := [(4, .ref (aR D (sPl S pj))), (0, .ref (aH D)), (1, .int (nI pj)), (2, .int (nI qj)), (3, .int (nI uj))]) hx hb dX3_update_30 hl (by decide) rfl (fun ls hl => ?_)
          refine lv_aload_n hx hb dX3_update_32 rfl (lv_at hl 1 rfl) ?_
          refine wr_get (ci := 2) (C := RX3) (T := TX3) (N := 2) (v := .ref (aP D)) hx hb hts in_X3 hown hT hI hR.1 rfl 0 (by decide) (hts (.fieldLink RX3 11 "CopyRows" "places" "[LCopyRows$Row;") (by decide +kernel)) rfl dX3_update_33 ?_
          refine lv_iload_n hx hb dX3_update_36 rfl (lv_at hl 3 rfl) ?_
          refine wr_aaldN (t := qj) hx hb hT hI hR.2.1 2 rfl (by omega) (by omega) dX3_update_37 ?_
          rcases hW.pl D qj with ⟨ez22, ep22⟩ | ⟨ez22, hv22, ep22⟩
          · refine W.eq (g2 := F0 m 38 ls [.null]) (by rw [ep22]; rfl) ?_
            refine lv_astoreN (lv' := [(5, .null), (4, .ref (aR D (sPl S pj))), (0, .ref (aH D)), (1, .int (nI pj)), (2, .int (nI qj)), (3, .int (nI uj))]) hx hb dX3_update_38 hl (by decide) rfl (fun ls hl => ?_)
            refine lv_aload_n hx hb dX3_update_40 rfl (lv_at hl 2 rfl) ?_
            refine wr_get (ci := 2) (C := RX3) (T := TX3) (N := 2) (v := .ref (aP D)) hx hb hts in_X3 hown hT hI hR.1 rfl 0 (by decide) (hts (.fieldLink RX3 11 "CopyRows" "places" "[LCopyRows$Row;") (by decide +kernel)) rfl dX3_update_41 ?_
            refine lv_iload_n hx hb dX3_update_44 rfl (lv_at hl 5 rfl) ?_
            refine wr_aaldN (t := uj) hx hb hT hI hR.2.1 2 rfl (by omega) (by omega) dX3_update_45 ?_
            rcases hW.pl D uj with ⟨ez23, ep23⟩ | ⟨ez23, hv23, ep23⟩
            · refine W.eq (g2 := F0 m 46 ls [.null]) (by rw [ep23]; rfl) ?_
              refine lv_astoreN (lv' := [(6, .null), (5, .null), (4, .ref (aR D (sPl S pj))), (0, .ref (aH D)), (1, .int (nI pj)), (2, .int (nI qj)), (3, .int (nI uj))]) hx hb dX3_update_46 hl (by decide) rfl (fun ls hl => ?_)
              refine lv_aload hx hb dX3_update_48 (lv_at hl 2 rfl) ?_
              refine lv_ifnull hx hb dX3_update_50 ?_
              refine lv_aloadN hx hb dX3_update_53 (lv_at hl 1 rfl) ?_
              refine lv_ifnullN (tgt := 63) hx hb dX3_update_55 (by decide) ?_
              refine lv_aload_n hx hb dX3_update_63 rfl (lv_at hl 3 rfl) ?_
              refine lv_iconst (v := 1) hx hb dX3_update_64 (by decide) ?_
              refine ca_V (As := [.int 1]) (rest := []) (r0 := (RX3, TX3, 2)) (ci := 2) ⟨hx, hb, hml, hown, hts⟩ (cc_X3_fail l E A _ 1 hR) (cwV 1 hts gX3_update_X3_fail rfl rfl rfl (by decide +kernel) ⟨(Nat.le_of_ble_eq_true rfl), (Nat.le_of_ble_eq_true rfl)⟩) hT hI hA hS rfl hR.1 rfl rfl hl.1 (Nat.le_of_ble_eq_true rfl) dX3_update_65 ⟨(Nat.le_of_ble_eq_true rfl), (Nat.le_of_ble_eq_true rfl)⟩ (fun r w_25 H locs hp_24 hI hS => ?_)
              obtain ⟨rfl, hR⟩ := hp_24
              refine W.eq (g2 := F0 m 68 ls [.int 0]) rfl ?_
              exact re_i hx hb hr hlocks hT hA hS hI (PoC.of (by
                                unfold sp_update
                                try simp only [pv_nI hpj, pv_nI hqj, pv_nI huj]
                                rw [if_neg ((fun q => q.elim ho_3 (fun q => q.elim ho_6 ho_9))), if_pos (Or.inr (Or.inl ez22))]) hR rfl) (Nat.le_of_ble_eq_true rfl) (Nat.le_of_ble_eq_true rfl) dX3_update_68
            · refine W.eq (g2 := F0 m 46 ls [.ref (aR D (sPl S uj))]) (by rw [ep23]; rfl) ?_
              refine lv_astore (lv' := [(6, .ref (aR D (sPl S uj))), (5, .null), (4, .ref (aR D (sPl S pj))), (0, .ref (aH D)), (1, .int (nI pj)), (2, .int (nI qj)), (3, .int (nI uj))]) hx hb dX3_update_46 hl (by decide) rfl (fun ls hl => ?_)
              refine lv_aload hx hb dX3_update_48 (lv_at hl 2 rfl) ?_
              refine lv_ifnull hx hb dX3_update_50 ?_
              refine lv_aloadN hx hb dX3_update_53 (lv_at hl 1 rfl) ?_
              refine lv_ifnullN (tgt := 63) hx hb dX3_update_55 (by decide) ?_
              refine lv_aload_n hx hb dX3_update_63 rfl (lv_at hl 3 rfl) ?_
              refine lv_iconst (v := 1) hx hb dX3_update_64 (by decide) ?_
              refine ca_V (As := [.int 1]) (rest := []) (r0 := (RX3, TX3, 2)) (ci := 2) ⟨hx, hb, hml, hown, hts⟩ (cc_X3_fail l E A _ 1 hR) (cwV 1 hts gX3_update_X3_fail rfl rfl rfl (by decide +kernel) ⟨(Nat.le_of_ble_eq_true rfl), (Nat.le_of_ble_eq_true rfl)⟩) hT hI hA hS rfl hR.1 rfl rfl hl.1 (Nat.le_of_ble_eq_true rfl) dX3_update_65 ⟨(Nat.le_of_ble_eq_true rfl), (Nat.le_of_ble_eq_true rfl)⟩ (fun r w_27 H locs hp_26 hI hS => ?_)
              obtain ⟨rfl, hR⟩ := hp_26
              refine W.eq (g2 := F0 m 68 ls [.int 0]) rfl ?_
              exact re_i hx hb hr hlocks hT hA hS hI (PoC.of (by
                                unfold sp_update
                                try simp only [pv_nI hpj, pv_nI hqj, pv_nI huj]
                                rw [if_neg ((fun q => q.elim ho_3 (fun q => q.elim ho_6 ho_9))), if_pos (Or.inr (Or.inl ez22))]) hR rfl) (Nat.le_of_ble_eq_true rfl) (Nat.le_of_ble_eq_true rfl) dX3_update_68
          · refine W.eq (g2 := F0 m 38 ls [.ref (aR D (sPl S qj))]) (by rw [ep22]; rfl) ?_
            refine lv_astore (lv' := [(5, .ref (aR D (sPl S qj))), (4, .ref (aR D (sPl S pj))), (0, .ref (aH D)), (1, .int (nI pj)), (2, .int (nI qj)), (3, .int (nI uj))]) hx hb dX3_update_38 hl (by decide) rfl (fun ls hl => ?_)
            refine lv_aload_n hx hb dX3_update_40 rfl (lv_at hl 2 rfl) ?_
            refine wr_get (ci := 2) (C := RX3) (T := TX3) (N := 2) (v := .ref (aP D)) hx hb hts in_X3 hown hT hI hR.1 rfl 0 (by decide) (hts (.fieldLink RX3 11 "CopyRows" "places" "[LCopyRows$Row;") (by decide +kernel)) rfl dX3_update_41 ?_
            refine lv_iload_n hx hb dX3_update_44 rfl (lv_at hl 5 rfl) ?_
            refine wr_aaldN (t := uj) hx hb hT hI hR.2.1 2 rfl (by omega) (by omega) dX3_update_45 ?_
            rcases hW.pl D uj with ⟨ez28, ep28⟩ | ⟨ez28, hv28, ep28⟩
            · refine W.eq (g2 := F0 m 46 ls [.null]) (by rw [ep28]; rfl) ?_
              refine lv_astoreN (lv' := [(6, .null), (5, .ref (aR D (sPl S qj))), (4, .ref (aR D (sPl S pj))), (0, .ref (aH D)), (1, .int (nI pj)), (2, .int (nI qj)), (3, .int (nI uj))]) hx hb dX3_update_46 hl (by decide) rfl (fun ls hl => ?_)
              refine lv_aload hx hb dX3_update_48 (lv_at hl 2 rfl) ?_
              refine lv_ifnull hx hb dX3_update_50 ?_
              refine lv_aload hx hb dX3_update_53 (lv_at hl 1 rfl) ?_
              refine lv_ifnull hx hb dX3_update_55 ?_
              refine lv_aloadN hx hb dX3_update_58 (lv_at hl 0 rfl) ?_
              refine lv_ifnonnullN hx hb dX3_update_60 ?_
              refine lv_aload_n hx hb dX3_update_63 rfl (lv_at hl 3 rfl) ?_
              refine lv_iconst (v := 1) hx hb dX3_update_64 (by decide) ?_
              refine ca_V (As := [.int 1]) (rest := []) (r0 := (RX3, TX3, 2)) (ci := 2) ⟨hx, hb, hml, hown, hts⟩ (cc_X3_fail l E A _ 1 hR) (cwV 1 hts gX3_update_X3_fail rfl rfl rfl (by decide +kernel) ⟨(Nat.le_of_ble_eq_true rfl), (Nat.le_of_ble_eq_true rfl)⟩) hT hI hA hS rfl hR.1 rfl rfl hl.1 (Nat.le_of_ble_eq_true rfl) dX3_update_65 ⟨(Nat.le_of_ble_eq_true rfl), (Nat.le_of_ble_eq_true rfl)⟩ (fun r w_30 H locs hp_29 hI hS => ?_)
              obtain ⟨rfl, hR⟩ := hp_29
              refine W.eq (g2 := F0 m 68 ls [.int 0]) rfl ?_
              exact re_i hx hb hr hlocks hT hA hS hI (PoC.of (by
                                unfold sp_update
                                try simp only [pv_nI hpj, pv_nI hqj, pv_nI huj]
                                rw [if_neg ((fun q => q.elim ho_3 (fun q => q.elim ho_6 ho_9))), if_pos (Or.inr (Or.inr (ez28)))]) hR rfl) (Nat.le_of_ble_eq_true rfl) (Nat.le_of_ble_eq_true rfl) dX3_update_68
            · refine W.eq (g2 := F0 m 46 ls [.ref (aR D (sPl S uj))]) (by rw [ep28]; rfl) ?_
              refine lv_astore (lv' := [(6, .ref (aR D (sPl S uj))), (5, .ref (aR D (sPl S qj))), (4, .ref (aR D (sPl S pj))), (0, .ref (aH D)), (1, .int (nI pj)), (2, .int (nI qj)), (3, .int (nI uj))]) hx hb dX3_update_46 hl (by decide) rfl (fun ls hl => ?_)
              refine lv_aload hx hb dX3_update_48 (lv_at hl 2 rfl) ?_
              refine lv_ifnull hx hb dX3_update_50 ?_
              refine lv_aload hx hb dX3_update_53 (lv_at hl 1 rfl) ?_
              refine lv_ifnull hx hb dX3_update_55 ?_
              refine lv_aload hx hb dX3_update_58 (lv_at hl 0 rfl) ?_
              refine lv_ifnonnull (tgt := 69) hx hb dX3_update_60 (by decide) ?_
              refine lv_aload hx hb dX3_update_69 (lv_at hl 2 rfl) ?_
              refine wr_get (ci := 0) (C := RX1) (T := TX1) (N := 4) (v := .int (kdv S (sPl S pj))) hx hb hts in_X1 hown hT hI (hR.2.2.1 _ hv10).1 rfl 0 (by decide) (hts (.fieldLink RX3 53 "CopyRows$Row" "kind" "I") (by decide +kernel)) rfl dX3_update_71 ?_
              refine lv_iconst (v := 1) hx hb dX3_update_74 (by decide) ?_
              refine lv_icmp_ne (tgt := 96) hx hb dX3_update_75 (by decide) (fun c_31 => ?_) (fun c_31 => ?_)
              · refine lv_aload_n hx hb dX3_update_96 rfl (lv_at hl 3 rfl) ?_
                refine lv_iconst (v := 5) hx hb dX3_update_97 (by decide) ?_
                refine ca_V (As := [.int 5]) (rest := []) (r0 := (RX3, TX3, 2)) (ci := 2) ⟨hx, hb, hml, hown, hts⟩ (cc_X3_fail l E A _ 5 hR) (cwV 1 hts gX3_update_X3_fail rfl rfl rfl (by decide +kernel) ⟨(Nat.le_of_ble_eq_true rfl), (Nat.le_of_ble_eq_true rfl)⟩) hT hI hA hS rfl hR.1 rfl rfl hl.1 (Nat.le_of_ble_eq_true rfl) dX3_update_98 ⟨(Nat.le_of_ble_eq_true rfl), (Nat.le_of_ble_eq_true rfl)⟩ (fun r w_33 H locs hp_32 hI hS => ?_)
                obtain ⟨rfl, hR⟩ := hp_32
                refine W.eq (g2 := F0 m 101 ls [.int 0]) rfl ?_
                exact re_i hx hb hr hlocks hT hA hS hI (PoC.of (by
                                    unfold sp_update
                                    try simp only [pv_nI hpj, pv_nI hqj, pv_nI huj]
                                    rw [if_neg ((fun q => q.elim ho_3 (fun q => q.elim ho_6 ho_9))), if_neg ((fun q => q.elim ez10 (fun q => q.elim ez22 ez28))), if_pos (fun q9 => c_31 q9.1)]) hR rfl) (Nat.le_of_ble_eq_true rfl) (Nat.le_of_ble_eq_true rfl) dX3_update_101
              · refine lv_aload hx hb dX3_update_78 (lv_at hl 1 rfl) ?_
                refine wr_get (ci := 0) (C := RX1) (T := TX1) (N := 4) (v := .int (kdv S (sPl S qj))) hx hb hts in_X1 hown hT hI (hR.2.2.1 _ hv22).1 rfl 0 (by decide) (hts (.fieldLink RX3 53 "CopyRows$Row" "kind" "I") (by decide +kernel)) rfl dX3_update_80 ?_
                refine lv_iconst (v := 1) hx hb dX3_update_83 (by decide) ?_
                refine lv_icmp_ne (tgt := 96) hx hb dX3_update_84 (by decide) (fun c_34 => ?_) (fun c_34 => ?_)
                · refine lv_aload_n hx hb dX3_update_96 rfl (lv_at hl 3 rfl) ?_
                  refine lv_iconst (v := 5) hx hb dX3_update_97 (by decide) ?_
                  refine ca_V (As := [.int 5]) (rest := []) (r0 := (RX3, TX3, 2)) (ci := 2) ⟨hx, hb, hml, hown, hts⟩ (cc_X3_fail l E A _ 5 hR) (cwV 1 hts gX3_update_X3_fail rfl rfl rfl (by decide +kernel) ⟨(Nat.le_of_ble_eq_true rfl), (Nat.le_of_ble_eq_true rfl)⟩) hT hI hA hS rfl hR.1 rfl rfl hl.1 (Nat.le_of_ble_eq_true rfl) dX3_update_98 ⟨(Nat.le_of_ble_eq_true rfl), (Nat.le_of_ble_eq_true rfl)⟩ (fun r w_36 H locs hp_35 hI hS => ?_)
                  obtain ⟨rfl, hR⟩ := hp_35
                  refine W.eq (g2 := F0 m 101 ls [.int 0]) rfl ?_
                  exact re_i hx hb hr hlocks hT hA hS hI (PoC.of (by
                                        unfold sp_update
                                        try simp only [pv_nI hpj, pv_nI hqj, pv_nI huj]
                                        rw [if_neg ((fun q => q.elim ho_3 (fun q => q.elim ho_6 ho_9))), if_neg ((fun q => q.elim ez10 (fun q => q.elim ez22 ez28))), if_pos (fun q9 => c_34 q9.2.1)]) hR rfl) (Nat.le_of_ble_eq_true rfl) (Nat.le_of_ble_eq_true rfl) dX3_update_101
                · refine lv_aload hx hb dX3_update_87 (lv_at hl 0 rfl) ?_
                  refine wr_get (ci := 0) (C := RX1) (T := TX1) (N := 4) (v := .int (kdv S (sPl S uj))) hx hb hts in_X1 hown hT hI (hR.2.2.1 _ hv28).1 rfl 0 (by decide) (hts (.fieldLink RX3 53 "CopyRows$Row" "kind" "I") (by decide +kernel)) rfl dX3_update_89 ?_
                  refine lv_iconst (v := 1) hx hb dX3_update_92 (by decide) ?_
                  refine lv_icmp_eq (tgt := 102) hx hb dX3_update_93 (by decide) (fun c_37 => ?_) (fun c_37 => ?_)
                  · refine lv_aload_n hx hb dX3_update_102 rfl (lv_at hl 3 rfl) ?_
                    refine lv_iconst (v := 0) hx hb dX3_update_103 (by decide) ?_
                    refine wr_put (ci := 2) (C := RX3) (T := TX3) (N := 2) (v := .int 0) (ty := .int) hx hb hts in_X3 tyX3 tyX3_ok nmX3 hown hT hI hS hR.1 rfl 1 (by decide) (hts (.fieldLink RX3 15 "CopyRows" "code" "I") (by decide +kernel)) rfl (by decide +kernel) rfl rfl (Nat.le_of_ble_eq_true rfl) dX3_update_104 (fun H locs hI hS => ?_)
                    have hR := hR.cod (0)
                    refine lv_iconst (v := 0) hx hb dX3_update_107 (by decide) ?_
                    refine lv_istore (lv' := [(7, .int 0), (6, .ref (aR D (sPl S uj))), (5, .ref (aR D (sPl S qj))), (4, .ref (aR D (sPl S pj))), (0, .ref (aH D)), (1, .int (nI pj)), (2, .int (nI qj)), (3, .int (nI uj))]) hx hb dX3_update_108 hl (by decide) rfl (fun ls hl => ?_)
                    have hrp : vR S (sPl S pj) := row_of_N hv10 (Or.inr c_31)
                    have hrq : vR S (sPl S qj) := row_of_N hv22 (Or.inr c_34)
                    have hru : vR S (sPl S uj) := row_of_N hv28 (Or.inr c_37)
                    have hlq := hW.ln (Or.inl hrq)
                    refine lp_w (ι := Nat × Sx) (fun q9 => lnv S (sPl S qj) - q9.1) (fun q9 H locs ls => (q9.1 ≤ lnv S (sPl S qj) ∧ Wf q9.2 ∧ (vR q9.2 (sPl S pj) ∧ vR q9.2 (sPl S qj) ∧ vR q9.2 (sPl S uj)) ∧ (kdv q9.2 (sPl S pj) = 1 ∧ kdv q9.2 (sPl S qj) = 1 ∧ kdv q9.2 (sPl S uj) = 1) ∧ lnv q9.2 (sPl S qj) = lnv S (sPl S qj) ∧ upS (sPl S pj) (sPl S qj) (sPl S uj) (lnv S (sPl S qj)) 0 S = upS (sPl S pj) (sPl S qj) (sPl S uj) (lnv S (sPl S qj) - q9.1) q9.1 q9.2) ∧ (∃ w9, Hv E A w9 H ∧ Rp E (uCod q9.2 0) D w9) ∧ va_S A s.heap H locs ∧ lv_has ls 9 [(0, .ref (aH D)), (4, .ref (aR D (sPl S pj))), (5, .ref (aR D (sPl S qj))), (6, .ref (aR D (sPl S uj))), (7, .int (nI q9.1))]) ?_ (0, S) _ _ _ ⟨⟨Nat.zero_le _, hW, ⟨hrp, hrq, hru⟩, ⟨c_31, c_34, c_37⟩, rfl, rfl⟩, ⟨_, hI, hR⟩, hS, lv_sub hl [4, 3, 2, 1, 0] rfl⟩
                    rintro ⟨t, T9⟩ H locs ls ⟨⟨ht, hW9, ⟨hrp, hrq, hru⟩, ⟨hkp, hkq, hku⟩, hlen, hlp⟩, ⟨w9, hI, hR⟩, hS, hl⟩ ih
                    dsimp only at ht hW9 hrp hrq hru hkp hkq hku hlen hlp hR hl
                    have hl1 := hW9.ln (Or.inl hrp)
                    have hl2 := hW9.ln (Or.inl hrq)
                    have hl3 := hW9.ln (Or.inl hru)
                    refine lv_iload hx hb dX3_update_110 (lv_at hl 4 rfl) ?_
                    refine lv_aload hx hb dX3_update_112 (lv_at hl 2 rfl) ?_
                    refine wr_get (ci := 0) (C := RX1) (T := TX1) (N := 4) (v := .int (nI (lnv T9 (sPl S qj)))) hx hb hts in_X1 hown hT hI (hR.2.2.1 _ (Or.inl hrq)).1 rfl 1 (by decide) (hts (.fieldLink RX3 43 "CopyRows$Row" "length" "I") (by decide +kernel)) rfl dX3_update_114 ?_
                    refine lv_icmp_ge (tgt := 180) hx hb dX3_update_117 (by decide) (fun c_39 => ?_) (fun c_39 => ?_)
                    · have c_39 : lnv T9 (sPl S qj) ≤ t := (nI_leI (a := lnv T9 (sPl S qj)) (b := t) (by omega) (by omega)).mp c_39
                      refine lv_aload hx hb dX3_update_180 (lv_at hl 2 rfl) ?_
                      refine wr_get (ci := 0) (C := RX1) (T := TX1) (N := 4) (v := .int (nI (lnv T9 (sPl S qj)))) hx hb hts in_X1 hown hT hI (hR.2.2.1 _ (Or.inl hrq)).1 rfl 1 (by decide) (hts (.fieldLink RX3 43 "CopyRows$Row" "length" "I") (by decide +kernel)) rfl dX3_update_182 ?_
                      exact re_i hx hb hr hlocks hT hA hS hI (PoC.of (by
                                                unfold sp_update
                                                try simp only [pv_nI hpj, pv_nI hqj, pv_nI huj]
                                                rw [if_neg ((fun q => q.elim ho_3 (fun q => q.elim ho_6 ho_9))), if_neg ((fun q => q.elim ez10 (fun q => q.elim ez22 ez28))), if_neg (not_not_intro ⟨c_31, c_34, c_37⟩)]
                                                rw [hlp, show lnv S (sPl S qj) - t = 0 by omega]
                                                rw [hlen, show t = lnv S (sPl S qj) by omega]
                                                rfl) hR rfl) (Nat.le_of_ble_eq_true rfl) (Nat.le_of_ble_eq_true rfl) dX3_update_185
                    · have c_39 : ¬ lnv T9 (sPl S qj) ≤ t := fun q => c_39 ((nI_leI (a := lnv T9 (sPl S qj)) (b := t) (by omega) (by omega)).mpr q)
                      refine lv_aload hx hb dX3_update_120 (lv_at hl 2 rfl) ?_
                      refine wr_get (ci := 0) (C := RX1) (T := TX1) (N := 4) (v := .ref (aN D (sPl S qj))) hx hb hts in_X1 hown hT hI (hR.2.2.1 _ (Or.inl hrq)).1 rfl 2 (by decide) (hts (.fieldLink RX3 49 "CopyRows$Row" "numbers" "[I") (by decide +kernel)) rfl dX3_update_122 ?_
                      refine lv_iload hx hb dX3_update_125 (lv_at hl 4 rfl) ?_
                      refine wr_ialdN (t := t) (n := lnv T9 (sPl S qj)) (f := itv T9 (sPl S qj)) hx hb hT hI (hR.num (Or.inl hrq) (Or.inr hkq)) (by omega) (by omega) dX3_update_127 ?_
                      refine lv_topi (fun k0 hk0 => ?_)
                      refine lv_istore (lv' := [(8, .int k0), (0, .ref (aH D)), (4, .ref (aR D (sPl S pj))), (5, .ref (aR D (sPl S qj))), (6, .ref (aR D (sPl S uj))), (7, .int (nI t))]) hx hb dX3_update_128 hl (by decide) rfl (fun ls hl => ?_)
                      refine lv_aload hx hb dX3_update_130 (lv_at hl 4 rfl) ?_
                      refine lv_iload hx hb dX3_update_132 (lv_at hl 0 rfl) ?_
                      refine ca_V (As := [.int k0]) (rest := []) (r0 := (RX1, TX1, 4)) (ci := 0) ⟨hx, hb, hml, hown, hts⟩ (cc_X1_has l E A _ k0 (hR.2.2.1 _ (Or.inl hru)).1) (cwV 1 hts gX3_update_X1_has rfl rfl rfl (by decide +kernel) ⟨(Nat.le_of_ble_eq_true rfl), (Nat.le_of_ble_eq_true rfl)⟩) hT hI hA hS rfl (hR.2.2.1 _ (Or.inl hru)).1 rfl rfl hl.1 (Nat.le_of_ble_eq_true rfl) dX3_update_134 ⟨(Nat.le_of_ble_eq_true rfl), (Nat.le_of_ble_eq_true rfl)⟩ (fun r w_41 H locs hp_40 hI hS => ?_)
                      obtain ⟨rfl, ⟨hi_42, rfl⟩ | ⟨hi_42, rfl⟩⟩ := hp_40
                      · have hi_42 : ¬ oI (lnv T9 (sPl S uj)) k0 := has_yes hi_42
                        refine W.eq (g2 := F0 m 137 ls [.int 1]) rfl ?_
                        refine lv_if_eq (tgt := 150) hx hb dX3_update_137 (by decide) (fun c => absurd c (by decide)) (fun _ => ?_)
                        refine lv_aload hx hb dX3_update_140 (lv_at hl 2 rfl) ?_
                        refine lv_iload hx hb dX3_update_142 (lv_at hl 0 rfl) ?_
                        refine ca_V (As := [.int k0]) (rest := []) (r0 := (RX1, TX1, 4)) (ci := 0) ⟨hx, hb, hml, hown, hts⟩ (cc_X1_has l E A _ k0 (hR.2.2.1 _ (Or.inl hrp)).1) (cwV 1 hts gX3_update_X1_has rfl rfl rfl (by decide +kernel) ⟨(Nat.le_of_ble_eq_true rfl), (Nat.le_of_ble_eq_true rfl)⟩) hT hI hA hS rfl (hR.2.2.1 _ (Or.inl hrp)).1 rfl rfl hl.1 (Nat.le_of_ble_eq_true rfl) dX3_update_144 ⟨(Nat.le_of_ble_eq_true rfl), (Nat.le_of_ble_eq_true rfl)⟩ (fun r w_44 H locs hp_43 hI hS => ?_)
                        obtain ⟨rfl, ⟨hi_45, rfl⟩ | ⟨hi_45, rfl⟩⟩ := hp_43
                        · have hi_45 : ¬ oI (lnv T9 (sPl S pj)) k0 := has_yes hi_45
                          refine W.eq (g2 := F0 m 147 ls [.int 1]) rfl ?_
                          refine lv_if_ne (tgt := 158) hx hb dX3_update_147 (by decide) (fun _ => ?_) (fun c => absurd c (by decide))
                          obtain ⟨kj, hkj, rfl⟩ := oI_nat hl1 hi_45
                          obtain ⟨kk, hkk, hke⟩ := oI_nat hl3 hi_42
                          obtain rfl : kj = kk := nI_inj (by omega) (by omega) hke
                          refine lv_aload hx hb dX3_update_158 (lv_at hl 2 rfl) ?_
                          refine wr_get (ci := 0) (C := RX1) (T := TX1) (N := 4) (v := .ref (aN D (sPl S pj))) hx hb hts in_X1 hown hT hI (hR.2.2.1 _ (Or.inl hrp)).1 rfl 2 (by decide) (hts (.fieldLink RX3 49 "CopyRows$Row" "numbers" "[I") (by decide +kernel)) rfl dX3_update_160 ?_
                          refine lv_iload hx hb dX3_update_163 (lv_at hl 0 rfl) ?_
                          refine lv_aload hx hb dX3_update_165 (lv_at hl 4 rfl) ?_
                          refine wr_get (ci := 0) (C := RX1) (T := TX1) (N := 4) (v := .ref (aN D (sPl S uj))) hx hb hts in_X1 hown hT hI (hR.2.2.1 _ (Or.inl hru)).1 rfl 2 (by decide) (hts (.fieldLink RX3 49 "CopyRows$Row" "numbers" "[I") (by decide +kernel)) rfl dX3_update_167 ?_
                          refine lv_iload hx hb dX3_update_170 (lv_at hl 0 rfl) ?_
                          refine wr_ialdN (t := kj) (n := lnv T9 (sPl S uj)) (f := itv T9 (sPl S uj)) hx hb hT hI (hR.num (Or.inl hru) (Or.inr hku)) (by omega) (by omega) dX3_update_172 ?_
                          refine wr_iastN (t := kj) (n := lnv T9 (sPl S pj)) (f := itv T9 (sPl S pj)) hx hb hT hI hS (hR.num (Or.inl hrp) (Or.inr hkp)) (by omega) (by omega) dX3_update_173 (fun H locs hI hS => ?_)
                          have hR := hR.numW (v := sPl S pj) hrp (Or.inr hkp) (upd (itv T9 (sPl S pj)) kj (itv T9 (sPl S uj) kj))
                          refine lv_iinc (v := nI (t + 1)) (lv' := [(7, .int (nI (t + 1))), (8, .int (nI kj)), (0, .ref (aH D)), (4, .ref (aR D (sPl S pj))), (5, .ref (aR D (sPl S qj))), (6, .ref (aR D (sPl S uj)))]) hx hb dX3_update_174 hl (k := 5) rfl (nI_1 _) (by decide) rfl (fun ls hl => ?_)
                          refine lv_goto (tgt := 110) hx hb dX3_update_177 (by decide) ?_
                          refine ih (t + 1, uRow T9 (ix (sPl S pj)) (upd (itv T9 (sPl S pj)) kj (itv T9 (sPl S uj) kj))) _ _ _ ⟨⟨by show t + 1 ≤ lnv S (sPl S qj); omega, ?_, ⟨hrp, hrq, hru⟩, ⟨hkp, hkq, hku⟩, hlen, ?_⟩, ⟨_, hI, hR⟩, hS, lv_sub hl [2, 3, 4, 5, 0] rfl⟩ (by show lnv S (sPl S qj) - (t + 1) < lnv S (sPl S qj) - t; omega)
                          · exact hW9.set hrp (fun e9 => by rw [hkp] at e9; exact absurd e9 (by decide)) (fun e9 => by rw [hkp] at e9; exact absurd e9 (by decide))
                          · show upS _ _ _ _ 0 S = upS _ _ _ (lnv S (sPl S qj) - (t + 1)) (t + 1) _
                            rw [hlp]
                            obtain ⟨d9, hd9⟩ : ∃ d9, lnv S (sPl S qj) - t = d9 + 1 := ⟨lnv S (sPl S qj) - t - 1, by omega⟩
                            rw [hd9, show lnv S (sPl S qj) - (t + 1) = d9 by omega]
                            simp only [upS]
                            rw [← hk0, if_neg (fun q9 => q9.elim hi_42 hi_45), ix_nI (show kj < 2 ^ 31 by omega)]
                        · have hi_45 : oI (lnv T9 (sPl S pj)) k0 := has_no hi_45
                          refine W.eq (g2 := F0 m 147 ls [.int 0]) rfl ?_
                          refine lv_if_ne (tgt := 158) hx hb dX3_update_147 (by decide) (fun c => absurd c (by decide)) (fun _ => ?_)
                          refine lv_aload_n hx hb dX3_update_150 rfl (lv_at hl 1 rfl) ?_
                          refine lv_iconst (v := 3) hx hb dX3_update_151 (by decide) ?_
                          refine wr_put (ci := 2) (C := RX3) (T := TX3) (N := 2) (v := .int 3) (ty := .int) hx hb hts in_X3 tyX3 tyX3_ok nmX3 hown hT hI hS hR.1 rfl 1 (by decide) (hts (.fieldLink RX3 15 "CopyRows" "code" "I") (by decide +kernel)) rfl (by decide +kernel) rfl rfl (Nat.le_of_ble_eq_true rfl) dX3_update_152 (fun H locs hI hS => ?_)
                          have hR := hR.cod (3)
                          refine lv_iload hx hb dX3_update_155 (lv_at hl 5 rfl) ?_
                          exact re_i hx hb hr hlocks hT hA hS hI (PoC.of (by
                                                        unfold sp_update
                                                        try simp only [pv_nI hpj, pv_nI hqj, pv_nI huj]
                                                        rw [if_neg ((fun q => q.elim ho_3 (fun q => q.elim ho_6 ho_9))), if_neg ((fun q => q.elim ez10 (fun q => q.elim ez22 ez28))), if_neg (not_not_intro ⟨c_31, c_34, c_37⟩)]
                                                        rw [hlp]
                                                        obtain ⟨d9, hd9⟩ : ∃ d9, lnv S (sPl S qj) - t = d9 + 1 := ⟨lnv S (sPl S qj) - t - 1, by omega⟩
                                                        rw [hd9]
                                                        simp only [upS]
                                                        rw [← hk0, if_pos (Or.inr hi_45)]) hR rfl) (Nat.le_of_ble_eq_true rfl) (Nat.le_of_ble_eq_true rfl) dX3_update_157
                      · have hi_42 : oI (lnv T9 (sPl S uj)) k0 := has_no hi_42
                        refine W.eq (g2 := F0 m 137 ls [.int 0]) rfl ?_
                        refine lv_if_eq (tgt := 150) hx hb dX3_update_137 (by decide) (fun _ => ?_) (fun c => absurd c (by decide))
                        refine lv_aload_n hx hb dX3_update_150 rfl (lv_at hl 1 rfl) ?_
                        refine lv_iconst (v := 3) hx hb dX3_update_151 (by decide) ?_
                        refine wr_put (ci := 2) (C := RX3) (T := TX3) (N := 2) (v := .int 3) (ty := .int) hx hb hts in_X3 tyX3 tyX3_ok nmX3 hown hT hI hS hR.1 rfl 1 (by decide) (hts (.fieldLink RX3 15 "CopyRows" "code" "I") (by decide +kernel)) rfl (by decide +kernel) rfl rfl (Nat.le_of_ble_eq_true rfl) dX3_update_152 (fun H locs hI hS => ?_)
                        have hR := hR.cod (3)
                        refine lv_iload hx hb dX3_update_155 (lv_at hl 5 rfl) ?_
                        exact re_i hx hb hr hlocks hT hA hS hI (PoC.of (by
                                                    unfold sp_update
                                                    try simp only [pv_nI hpj, pv_nI hqj, pv_nI huj]
                                                    rw [if_neg ((fun q => q.elim ho_3 (fun q => q.elim ho_6 ho_9))), if_neg ((fun q => q.elim ez10 (fun q => q.elim ez22 ez28))), if_neg (not_not_intro ⟨c_31, c_34, c_37⟩)]
                                                    rw [hlp]
                                                    obtain ⟨d9, hd9⟩ : ∃ d9, lnv S (sPl S qj) - t = d9 + 1 := ⟨lnv S (sPl S qj) - t - 1, by omega⟩
                                                    rw [hd9]
                                                    simp only [upS]
                                                    rw [← hk0, if_pos (Or.inl hi_42)]) hR rfl) (Nat.le_of_ble_eq_true rfl) (Nat.le_of_ble_eq_true rfl) dX3_update_157
                  · refine lv_aload_n hx hb dX3_update_96 rfl (lv_at hl 3 rfl) ?_
                    refine lv_iconst (v := 5) hx hb dX3_update_97 (by decide) ?_
                    refine ca_V (As := [.int 5]) (rest := []) (r0 := (RX3, TX3, 2)) (ci := 2) ⟨hx, hb, hml, hown, hts⟩ (cc_X3_fail l E A _ 5 hR) (cwV 1 hts gX3_update_X3_fail rfl rfl rfl (by decide +kernel) ⟨(Nat.le_of_ble_eq_true rfl), (Nat.le_of_ble_eq_true rfl)⟩) hT hI hA hS rfl hR.1 rfl rfl hl.1 (Nat.le_of_ble_eq_true rfl) dX3_update_98 ⟨(Nat.le_of_ble_eq_true rfl), (Nat.le_of_ble_eq_true rfl)⟩ (fun r w_49 H locs hp_48 hI hS => ?_)
                    obtain ⟨rfl, hR⟩ := hp_48
                    refine W.eq (g2 := F0 m 101 ls [.int 0]) rfl ?_
                    exact re_i hx hb hr hlocks hT hA hS hI (PoC.of (by
                                            unfold sp_update
                                            try simp only [pv_nI hpj, pv_nI hqj, pv_nI huj]
                                            rw [if_neg ((fun q => q.elim ho_3 (fun q => q.elim ho_6 ho_9))), if_neg ((fun q => q.elim ez10 (fun q => q.elim ez22 ez28))), if_pos (fun q9 => c_37 q9.2.2)]) hR rfl) (Nat.le_of_ble_eq_true rfl) (Nat.le_of_ble_eq_true rfl) dX3_update_101

set_option maxHeartbeats 4000000 in
set_option maxRecDepth 100000 in
theorem cc_X3_same (l : Launch) (E : En) (A : Nat → Prop) (w : Wd) {S : Sx} {D : Ad} (a b : Int32) (hW : Wf S) (hR : Rp E S D w) (hb9 : sNr S < 512 ∧ sNt S < 512 ∧ sNl S < 512) : Ct l yX3_same wsX3_same ({ frames := 1, cells := 0, slots := 0, locals := 20 } : Room) E A w [.ref (aH D), .int a, .int b] (fun r w' => PoC E D (sp_same S a b) r w') 0 0 := by
  refine Met.ofW (cc := cX3_same) (maxL := 3) (ret := (some .int)) (by decide) rfl ?_
  intro pp0 ee0 s m args below meth cc0 s₁ B hml hv
  obtain ⟨rfl, hT, hI, hA⟩ := hv
  have hx := B.exec
  have hb := B.bytes
  have hr := B.returns
  have hts := atoms_spec (ws := wsX3_same) B.pre
  have hown : s.vm.findClass RX3 = some m.cls := findClass_of_methodNamed B.named
  have hlocks := B.notSynchronized
  have in_X3 : ∀ w ∈ wsX30, w ∈ wsX3_same := by decide +kernel
  have hS : va_S A s.heap s.heap [] := va_S.rf
  have hl := lv_entry ([.ref (aH D), .int a, .int b]) (n := 3) (Nat.le_of_ble_eq_true rfl)
  rw [lg_entry_eq]
  generalize (lg_sl ([.ref (aH D), .int a, .int b]) ++ List.replicate (3 - (lg_sl ([.ref (aH D), .int a, .int b])).length) Slot.unset).toArray = ls at hl ⊢
  have hl : lv_has ls 3 [(0, .ref (aH D)), (1, .int a), (2, .int b)] := hl
  refine lv_iload_n hx hb dX3_same_0 rfl (lv_at hl 1 rfl) ?_
  refine ca_S (As := [.int a]) (rest := []) ⟨hx, hb, hml, hown, hts⟩ (cc_X3_isOutside l E A _ a) (va_cwS 1 hts gX3_same_X3_isOutside rfl rfl rfl (by decide +kernel) ⟨(Nat.le_of_ble_eq_true rfl), (Nat.le_of_ble_eq_true rfl)⟩) hT hI hA hS rfl rfl hl.1 (Nat.le_of_ble_eq_true rfl) dX3_same_1 ⟨(Nat.le_of_ble_eq_true rfl), (Nat.le_of_ble_eq_true rfl)⟩ (fun r w_2 H locs hp_1 hI hS => ?_)
  obtain ⟨rfl, ⟨ho_3, rfl⟩ | ⟨ho_3, rfl⟩⟩ := hp_1
  · refine W.eq (g2 := F0 m 4 ls [.int 1]) rfl ?_
    refine lv_if_ne (tgt := 14) hx hb dX3_same_4 (by decide) (fun _ => ?_) (fun c => absurd c (by decide))
    refine lv_ldc (v := -2000000001) hx hb hown (hts (.constant RX3 23 (-2000000001)) (by decide +kernel)) dX3_same_14 ?_
    exact re_i hx hb hr hlocks hT hA hS hI (PoC.of (by
            unfold sp_same
            rw [if_pos (Or.inl ho_3)]) hR rfl) (Nat.le_of_ble_eq_true rfl) (Nat.le_of_ble_eq_true rfl) dX3_same_16
  · refine W.eq (g2 := F0 m 4 ls [.int 0]) rfl ?_
    refine lv_if_ne (tgt := 14) hx hb dX3_same_4 (by decide) (fun c => absurd c (by decide)) (fun _ => ?_)
    refine lv_iload_n hx hb dX3_same_7 rfl (lv_at hl 2 rfl) ?_
    refine ca_S (As := [.int b]) (rest := []) ⟨hx, hb, hml, hown, hts⟩ (cc_X3_isOutside l E A _ b) (va_cwS 1 hts gX3_same_X3_isOutside rfl rfl rfl (by decide +kernel) ⟨(Nat.le_of_ble_eq_true rfl), (Nat.le_of_ble_eq_true rfl)⟩) hT hI hA hS rfl rfl hl.1 (Nat.le_of_ble_eq_true rfl) dX3_same_8 ⟨(Nat.le_of_ble_eq_true rfl), (Nat.le_of_ble_eq_true rfl)⟩ (fun r w_5 H locs hp_4 hI hS => ?_)
    obtain ⟨rfl, ⟨ho_6, rfl⟩ | ⟨ho_6, rfl⟩⟩ := hp_4
    · refine W.eq (g2 := F0 m 11 ls [.int 1]) rfl ?_
      refine lv_if_eq (tgt := 17) hx hb dX3_same_11 (by decide) (fun c => absurd c (by decide)) (fun _ => ?_)
      refine lv_ldc (v := -2000000001) hx hb hown (hts (.constant RX3 23 (-2000000001)) (by decide +kernel)) dX3_same_14 ?_
      exact re_i hx hb hr hlocks hT hA hS hI (PoC.of (by
                unfold sp_same
                rw [if_pos (Or.inr (ho_6))]) hR rfl) (Nat.le_of_ble_eq_true rfl) (Nat.le_of_ble_eq_true rfl) dX3_same_16
    · refine W.eq (g2 := F0 m 11 ls [.int 0]) rfl ?_
      refine lv_if_eq (tgt := 17) hx hb dX3_same_11 (by decide) (fun _ => ?_) (fun c => absurd c (by decide))
      obtain ⟨aj, haj, rfl⟩ := isP_nat ho_3
      obtain ⟨bj, hbj, rfl⟩ := isP_nat ho_6
      refine lv_aload_n hx hb dX3_same_17 rfl (lv_at hl 0 rfl) ?_
      refine wr_get (ci := 2) (C := RX3) (T := TX3) (N := 2) (v := .ref (aP D)) hx hb hts in_X3 hown hT hI hR.1 rfl 0 (by decide) (hts (.fieldLink RX3 11 "CopyRows" "places" "[LCopyRows$Row;") (by decide +kernel)) rfl dX3_same_18 ?_
      refine lv_iload_n hx hb dX3_same_21 rfl (lv_at hl 1 rfl) ?_
      refine wr_aaldN (t := aj) (n := 12) (f := fun k9 => plO D (sPl S k9)) hx hb hT hI hR.2.1 2 rfl (by omega) (by omega) dX3_same_22 ?_
      refine lv_aload_n hx hb dX3_same_23 rfl (lv_at hl 0 rfl) ?_
      refine wr_get (ci := 2) (C := RX3) (T := TX3) (N := 2) (v := .ref (aP D)) hx hb hts in_X3 hown hT hI hR.1 rfl 0 (by decide) (hts (.fieldLink RX3 11 "CopyRows" "places" "[LCopyRows$Row;") (by decide +kernel)) rfl dX3_same_24 ?_
      refine lv_iload_n hx hb dX3_same_27 rfl (lv_at hl 2 rfl) ?_
      refine wr_aaldN (t := bj) (n := 12) (f := fun k9 => plO D (sPl S k9)) hx hb hT hI hR.2.1 2 rfl (by omega) (by omega) dX3_same_28 ?_
      refine W.eq (g2 := F0 m 29 ls (va_rf (plO D (sPl S bj)) :: va_rf (plO D (sPl S aj)) :: [])) rfl ?_
      refine lv_acmp_ne (tgt := 36) hx hb dX3_same_29 (by decide) (fun c_7 => ?_) (fun c_7 => ?_)
      · refine lv_iconst (v := 0) hx hb dX3_same_36 (by decide) ?_
        exact re_i hx hb hr hlocks hT hA hS hI (PoC.of (by
                    unfold sp_same
                    try simp only [pv_nI haj, pv_nI hbj]
                    rw [if_neg ((fun q => q.elim ho_3 ho_6))]
                    rw [if_neg (fun q9 => c_7 ((hR.pl_inj (hW.1 aj) (hW.1 bj)).mpr q9))]) hR rfl) (Nat.le_of_ble_eq_true rfl) (Nat.le_of_ble_eq_true rfl) dX3_same_37
      · refine lv_iconst (v := 1) hx hb dX3_same_32 (by decide) ?_
        refine lv_goto (tgt := 37) hx hb dX3_same_33 (by decide) ?_
        exact re_i hx hb hr hlocks hT hA hS hI (PoC.of (by
                    unfold sp_same
                    try simp only [pv_nI haj, pv_nI hbj]
                    rw [if_neg ((fun q => q.elim ho_3 ho_6))]
                    rw [if_pos ((hR.pl_inj (hW.1 aj) (hW.1 bj)).mp c_7)]) hR rfl) (Nat.le_of_ble_eq_true rfl) (Nat.le_of_ble_eq_true rfl) dX3_same_37

set_option maxHeartbeats 4000000 in
set_option maxRecDepth 100000 in
theorem cc_X3_equal (l : Launch) (E : En) (A : Nat → Prop) (w : Wd) {S : Sx} {D : Ad} (a b : Int32) (hW : Wf S) (hR : Rp E S D w) (hb9 : sNr S < 512 ∧ sNt S < 512 ∧ sNl S < 512) : Ct l yX3_equal wsX3_equal ({ frames := 2, cells := 0, slots := 0, locals := 43 } : Room) E A w [.ref (aH D), .int a, .int b] (fun r w' => PoC E D (sp_equal S a b) r w') 0 0 := by
  refine Met.ofW (cc := cX3_equal) (maxL := 5) (ret := (some .int)) (by decide) rfl ?_
  intro pp0 ee0 s m args below meth cc0 s₁ B hml hv
  obtain ⟨rfl, hT, hI, hA⟩ := hv
  have hx := B.exec
  have hb := B.bytes
  have hr := B.returns
  have hts := atoms_spec (ws := wsX3_equal) B.pre
  have hown : s.vm.findClass RX3 = some m.cls := findClass_of_methodNamed B.named
  have hlocks := B.notSynchronized
  have in_X1 : ∀ w ∈ wsX10, w ∈ wsX3_equal := by decide +kernel
  have in_X3 : ∀ w ∈ wsX30, w ∈ wsX3_equal := by decide +kernel
  have hS : va_S A s.heap s.heap [] := va_S.rf
  have hl := lv_entry ([.ref (aH D), .int a, .int b]) (n := 5) (Nat.le_of_ble_eq_true rfl)
  rw [lg_entry_eq]
  generalize (lg_sl ([.ref (aH D), .int a, .int b]) ++ List.replicate (5 - (lg_sl ([.ref (aH D), .int a, .int b])).length) Slot.unset).toArray = ls at hl ⊢
  have hl : lv_has ls 5 [(0, .ref (aH D)), (1, .int a), (2, .int b)] := hl
  refine lv_iload_n hx hb dX3_equal_0 rfl (lv_at hl 1 rfl) ?_
  refine ca_S (As := [.int a]) (rest := []) ⟨hx, hb, hml, hown, hts⟩ (cc_X3_isOutside l E A _ a) (va_cwS 1 hts gX3_equal_X3_isOutside rfl rfl rfl (by decide +kernel) ⟨(Nat.le_of_ble_eq_true rfl), (Nat.le_of_ble_eq_true rfl)⟩) hT hI hA hS rfl rfl hl.1 (Nat.le_of_ble_eq_true rfl) dX3_equal_1 ⟨(Nat.le_of_ble_eq_true rfl), (Nat.le_of_ble_eq_true rfl)⟩ (fun r w_2 H locs hp_1 hI hS => ?_)
  obtain ⟨rfl, ⟨ho_3, rfl⟩ | ⟨ho_3, rfl⟩⟩ := hp_1
  · refine W.eq (g2 := F0 m 4 ls [.int 1]) rfl ?_
    refine lv_if_ne (tgt := 14) hx hb dX3_equal_4 (by decide) (fun _ => ?_) (fun c => absurd c (by decide))
    refine lv_ldc (v := -2000000001) hx hb hown (hts (.constant RX3 23 (-2000000001)) (by decide +kernel)) dX3_equal_14 ?_
    exact re_i hx hb hr hlocks hT hA hS hI (PoC.of (by
            unfold sp_equal
            rw [if_pos (Or.inl ho_3)]) hR rfl) (Nat.le_of_ble_eq_true rfl) (Nat.le_of_ble_eq_true rfl) dX3_equal_16
  · refine W.eq (g2 := F0 m 4 ls [.int 0]) rfl ?_
    refine lv_if_ne (tgt := 14) hx hb dX3_equal_4 (by decide) (fun c => absurd c (by decide)) (fun _ => ?_)
    refine lv_iload_n hx hb dX3_equal_7 rfl (lv_at hl 2 rfl) ?_
    refine ca_S (As := [.int b]) (rest := []) ⟨hx, hb, hml, hown, hts⟩ (cc_X3_isOutside l E A _ b) (va_cwS 1 hts gX3_equal_X3_isOutside rfl rfl rfl (by decide +kernel) ⟨(Nat.le_of_ble_eq_true rfl), (Nat.le_of_ble_eq_true rfl)⟩) hT hI hA hS rfl rfl hl.1 (Nat.le_of_ble_eq_true rfl) dX3_equal_8 ⟨(Nat.le_of_ble_eq_true rfl), (Nat.le_of_ble_eq_true rfl)⟩ (fun r w_5 H locs hp_4 hI hS => ?_)
    obtain ⟨rfl, ⟨ho_6, rfl⟩ | ⟨ho_6, rfl⟩⟩ := hp_4
    · refine W.eq (g2 := F0 m 11 ls [.int 1]) rfl ?_
      refine lv_if_eq (tgt := 17) hx hb dX3_equal_11 (by decide) (fun c => absurd c (by decide)) (fun _ => ?_)
      refine lv_ldc (v := -2000000001) hx hb hown (hts (.constant RX3 23 (-2000000001)) (by decide +kernel)) dX3_equal_14 ?_
      exact re_i hx hb hr hlocks hT hA hS hI (PoC.of (by
                unfold sp_equal
                rw [if_pos (Or.inr (ho_6))]) hR rfl) (Nat.le_of_ble_eq_true rfl) (Nat.le_of_ble_eq_true rfl) dX3_equal_16
    · refine W.eq (g2 := F0 m 11 ls [.int 0]) rfl ?_
      refine lv_if_eq (tgt := 17) hx hb dX3_equal_11 (by decide) (fun _ => ?_) (fun c => absurd c (by decide))
      obtain ⟨aj, haj, rfl⟩ := isP_nat ho_3
      obtain ⟨bj, hbj, rfl⟩ := isP_nat ho_6
      refine lv_aload_n hx hb dX3_equal_17 rfl (lv_at hl 0 rfl) ?_
      refine wr_get (ci := 2) (C := RX3) (T := TX3) (N := 2) (v := .ref (aP D)) hx hb hts in_X3 hown hT hI hR.1 rfl 0 (by decide) (hts (.fieldLink RX3 11 "CopyRows" "places" "[LCopyRows$Row;") (by decide +kernel)) rfl dX3_equal_18 ?_
      refine lv_iload_n hx hb dX3_equal_21 rfl (lv_at hl 1 rfl) ?_
      refine wr_aaldN (t := aj) hx hb hT hI hR.2.1 2 rfl (by omega) (by omega) dX3_equal_22 ?_
      rcases hW.pl D aj with ⟨ez7, ep7⟩ | ⟨ez7, hv7, ep7⟩
      · refine W.eq (g2 := F0 m 23 ls [.null]) (by rw [ep7]; rfl) ?_
        refine lv_astore_nN (lv' := [(3, .null), (0, .ref (aH D)), (1, .int (nI aj)), (2, .int (nI bj))]) hx hb dX3_equal_23 rfl hl (by decide) rfl (fun ls hl => ?_)
        refine lv_aload_n hx hb dX3_equal_24 rfl (lv_at hl 1 rfl) ?_
        refine wr_get (ci := 2) (C := RX3) (T := TX3) (N := 2) (v := .ref (aP D)) hx hb hts in_X3 hown hT hI hR.1 rfl 0 (by decide) (hts (.fieldLink RX3 11 "CopyRows" "places" "[LCopyRows$Row;") (by decide +kernel)) rfl dX3_equal_25 ?_
        refine lv_iload_n hx hb dX3_equal_28 rfl (lv_at hl 3 rfl) ?_
        refine wr_aaldN (t := bj) hx hb hT hI hR.2.1 2 rfl (by omega) (by omega) dX3_equal_29 ?_
        rcases hW.pl D bj with ⟨ez8, ep8⟩ | ⟨ez8, hv8, ep8⟩
        · refine W.eq (g2 := F0 m 30 ls [.null]) (by rw [ep8]; rfl) ?_
          refine lv_astoreN (lv' := [(4, .null), (3, .null), (0, .ref (aH D)), (1, .int (nI aj)), (2, .int (nI bj))]) hx hb dX3_equal_30 hl (by decide) rfl (fun ls hl => ?_)
          refine lv_aload_nN hx hb dX3_equal_32 rfl (lv_at hl 1 rfl) ?_
          refine lv_aloadN hx hb dX3_equal_33 (lv_at hl 0 rfl) ?_
          refine W.eq (g2 := F0 m 35 ls (va_rf (plO D (sPl S bj)) :: va_rf (plO D (sPl S aj)) :: [])) (by simp only [ep8, ep7]; rfl) ?_
          refine lv_acmp_ne (tgt := 40) hx hb dX3_equal_35 (by decide) (fun c_9 => ?_) (fun c_9 => ?_)
          · have c_9 : ¬ sPl S aj = sPl S bj := fun q9 => c_9 ((hR.pl_inj (hW.1 aj) (hW.1 bj)).mpr q9)
            refine lv_aload_nN hx hb dX3_equal_40 rfl (lv_at hl 1 rfl) ?_
            refine lv_ifnullN (tgt := 58) hx hb dX3_equal_41 (by decide) ?_
            refine lv_iconst (v := 0) hx hb dX3_equal_58 (by decide) ?_
            exact re_i hx hb hr hlocks hT hA hS hI (PoC.of (by
                            unfold sp_equal
                            try simp only [pv_nI haj, pv_nI hbj]
                            rw [if_neg ((fun q => q.elim ho_3 ho_6)), if_neg (c_9), if_pos (Or.inl ez7)]) hR rfl) (Nat.le_of_ble_eq_true rfl) (Nat.le_of_ble_eq_true rfl) dX3_equal_59
          · have c_9 : sPl S aj = sPl S bj := (hR.pl_inj (hW.1 aj) (hW.1 bj)).mp c_9
            refine lv_iconst (v := 1) hx hb dX3_equal_38 (by decide) ?_
            exact re_i hx hb hr hlocks hT hA hS hI (PoC.of (by
                            unfold sp_equal
                            try simp only [pv_nI haj, pv_nI hbj]
                            rw [if_neg ((fun q => q.elim ho_3 ho_6)), if_pos (c_9)]) hR rfl) (Nat.le_of_ble_eq_true rfl) (Nat.le_of_ble_eq_true rfl) dX3_equal_39
        · refine W.eq (g2 := F0 m 30 ls [.ref (aR D (sPl S bj))]) (by rw [ep8]; rfl) ?_
          refine lv_astore (lv' := [(4, .ref (aR D (sPl S bj))), (3, .null), (0, .ref (aH D)), (1, .int (nI aj)), (2, .int (nI bj))]) hx hb dX3_equal_30 hl (by decide) rfl (fun ls hl => ?_)
          refine lv_aload_nN hx hb dX3_equal_32 rfl (lv_at hl 1 rfl) ?_
          refine lv_aload hx hb dX3_equal_33 (lv_at hl 0 rfl) ?_
          refine W.eq (g2 := F0 m 35 ls (va_rf (plO D (sPl S bj)) :: va_rf (plO D (sPl S aj)) :: [])) (by simp only [ep8, ep7]; rfl) ?_
          refine lv_acmp_ne (tgt := 40) hx hb dX3_equal_35 (by decide) (fun c_10 => ?_) (fun c_10 => ?_)
          · have c_10 : ¬ sPl S aj = sPl S bj := fun q9 => c_10 ((hR.pl_inj (hW.1 aj) (hW.1 bj)).mpr q9)
            refine lv_aload_nN hx hb dX3_equal_40 rfl (lv_at hl 1 rfl) ?_
            refine lv_ifnullN (tgt := 58) hx hb dX3_equal_41 (by decide) ?_
            refine lv_iconst (v := 0) hx hb dX3_equal_58 (by decide) ?_
            exact re_i hx hb hr hlocks hT hA hS hI (PoC.of (by
                            unfold sp_equal
                            try simp only [pv_nI haj, pv_nI hbj]
                            rw [if_neg ((fun q => q.elim ho_3 ho_6)), if_neg (c_10), if_pos (Or.inl ez7)]) hR rfl) (Nat.le_of_ble_eq_true rfl) (Nat.le_of_ble_eq_true rfl) dX3_equal_59
          · have c_10 : sPl S aj = sPl S bj := (hR.pl_inj (hW.1 aj) (hW.1 bj)).mp c_10
            refine lv_iconst (v := 1) hx hb dX3_equal_38 (by decide) ?_
            exact re_i hx hb hr hlocks hT hA hS hI (PoC.of (by
                            unfold sp_equal
                            try simp only [pv_nI haj, pv_nI hbj]
                            rw [if_neg ((fun q => q.elim ho_3 ho_6)), if_pos (c_10)]) hR rfl) (Nat.le_of_ble_eq_true rfl) (Nat.le_of_ble_eq_true rfl) dX3_equal_39
      · refine W.eq (g2 := F0 m 23 ls [.ref (aR D (sPl S aj))]) (by rw [ep7]; rfl) ?_
        refine lv_astore_n (lv' := [(3, .ref (aR D (sPl S aj))), (0, .ref (aH D)), (1, .int (nI aj)), (2, .int (nI bj))]) hx hb dX3_equal_23 rfl hl (by decide) rfl (fun ls hl => ?_)
        refine lv_aload_n hx hb dX3_equal_24 rfl (lv_at hl 1 rfl) ?_
        refine wr_get (ci := 2) (C := RX3) (T := TX3) (N := 2) (v := .ref (aP D)) hx hb hts in_X3 hown hT hI hR.1 rfl 0 (by decide) (hts (.fieldLink RX3 11 "CopyRows" "places" "[LCopyRows$Row;") (by decide +kernel)) rfl dX3_equal_25 ?_
        refine lv_iload_n hx hb dX3_equal_28 rfl (lv_at hl 3 rfl) ?_
        refine wr_aaldN (t := bj) hx hb hT hI hR.2.1 2 rfl (by omega) (by omega) dX3_equal_29 ?_
        rcases hW.pl D bj with ⟨ez11, ep11⟩ | ⟨ez11, hv11, ep11⟩
        · refine W.eq (g2 := F0 m 30 ls [.null]) (by rw [ep11]; rfl) ?_
          refine lv_astoreN (lv' := [(4, .null), (3, .ref (aR D (sPl S aj))), (0, .ref (aH D)), (1, .int (nI aj)), (2, .int (nI bj))]) hx hb dX3_equal_30 hl (by decide) rfl (fun ls hl => ?_)
          refine lv_aload_n hx hb dX3_equal_32 rfl (lv_at hl 1 rfl) ?_
          refine lv_aloadN hx hb dX3_equal_33 (lv_at hl 0 rfl) ?_
          refine W.eq (g2 := F0 m 35 ls (va_rf (plO D (sPl S bj)) :: va_rf (plO D (sPl S aj)) :: [])) (by simp only [ep11, ep7]; rfl) ?_
          refine lv_acmp_ne (tgt := 40) hx hb dX3_equal_35 (by decide) (fun c_12 => ?_) (fun c_12 => ?_)
          · have c_12 : ¬ sPl S aj = sPl S bj := fun q9 => c_12 ((hR.pl_inj (hW.1 aj) (hW.1 bj)).mpr q9)
            refine lv_aload_n hx hb dX3_equal_40 rfl (lv_at hl 1 rfl) ?_
            refine lv_ifnull hx hb dX3_equal_41 ?_
            refine lv_aloadN hx hb dX3_equal_44 (lv_at hl 0 rfl) ?_
            refine lv_ifnullN (tgt := 58) hx hb dX3_equal_46 (by decide) ?_
            refine lv_iconst (v := 0) hx hb dX3_equal_58 (by decide) ?_
            exact re_i hx hb hr hlocks hT hA hS hI (PoC.of (by
                            unfold sp_equal
                            try simp only [pv_nI haj, pv_nI hbj]
                            rw [if_neg ((fun q => q.elim ho_3 ho_6)), if_neg (c_12), if_pos (Or.inr (Or.inl ez11))]) hR rfl) (Nat.le_of_ble_eq_true rfl) (Nat.le_of_ble_eq_true rfl) dX3_equal_59
          · have c_12 : sPl S aj = sPl S bj := (hR.pl_inj (hW.1 aj) (hW.1 bj)).mp c_12
            refine lv_iconst (v := 1) hx hb dX3_equal_38 (by decide) ?_
            exact re_i hx hb hr hlocks hT hA hS hI (PoC.of (by
                            unfold sp_equal
                            try simp only [pv_nI haj, pv_nI hbj]
                            rw [if_neg ((fun q => q.elim ho_3 ho_6)), if_pos (c_12)]) hR rfl) (Nat.le_of_ble_eq_true rfl) (Nat.le_of_ble_eq_true rfl) dX3_equal_39
        · refine W.eq (g2 := F0 m 30 ls [.ref (aR D (sPl S bj))]) (by rw [ep11]; rfl) ?_
          refine lv_astore (lv' := [(4, .ref (aR D (sPl S bj))), (3, .ref (aR D (sPl S aj))), (0, .ref (aH D)), (1, .int (nI aj)), (2, .int (nI bj))]) hx hb dX3_equal_30 hl (by decide) rfl (fun ls hl => ?_)
          refine lv_aload_n hx hb dX3_equal_32 rfl (lv_at hl 1 rfl) ?_
          refine lv_aload hx hb dX3_equal_33 (lv_at hl 0 rfl) ?_
          refine W.eq (g2 := F0 m 35 ls (va_rf (plO D (sPl S bj)) :: va_rf (plO D (sPl S aj)) :: [])) (by simp only [ep11, ep7]; rfl) ?_
          refine lv_acmp_ne (tgt := 40) hx hb dX3_equal_35 (by decide) (fun c_13 => ?_) (fun c_13 => ?_)
          · have c_13 : ¬ sPl S aj = sPl S bj := fun q9 => c_13 ((hR.pl_inj (hW.1 aj) (hW.1 bj)).mpr q9)
            refine lv_aload_n hx hb dX3_equal_40 rfl (lv_at hl 1 rfl) ?_
            refine lv_ifnull hx hb dX3_equal_41 ?_
            refine lv_aload hx hb dX3_equal_44 (lv_at hl 0 rfl) ?_
            refine lv_ifnull hx hb dX3_equal_46 ?_
            refine lv_aload_n hx hb dX3_equal_49 rfl (lv_at hl 1 rfl) ?_
            refine wr_get (ci := 0) (C := RX1) (T := TX1) (N := 4) (v := .int (kdv S (sPl S aj))) hx hb hts in_X1 hown hT hI (hR.2.2.1 _ hv7).1 rfl 0 (by decide) (hts (.fieldLink RX3 53 "CopyRows$Row" "kind" "I") (by decide +kernel)) rfl dX3_equal_50 ?_
            refine lv_bipush (v := 6) hx hb dX3_equal_53 (by decide) ?_
            refine lv_icmp_ne (tgt := 60) hx hb dX3_equal_55 (by decide) (fun c_14 => ?_) (fun c_14 => ?_)
            · have hr9 : vR S (sPl S aj) := vO_row hv7 c_14
              have hl1 := hW.ln hv7
              have hl2 := hW.ln hv11
              by_cases hkn : isN (kdv S (sPl S aj))
              · refine lv_aload_n hx hb dX3_equal_60 rfl (lv_at hl 1 rfl) ?_
                refine lv_aload hx hb dX3_equal_61 (lv_at hl 0 rfl) ?_
                refine ca_V (As := [.ref (aR D (sPl S bj))]) (rest := []) (r0 := (RX1, TX1, 4)) (ci := 0) ⟨hx, hb, hml, hown, hts⟩ (cc_X1_isLike_n l E A _ (by omega) (by omega) hkn (hR.2.2.1 _ hv7).1 (hR.2.2.1 _ hv11).1 (hR.num hv7 hkn) (fun e9 => hR.num hv11 (by rw [← e9]; exact hkn))) (cwV 1 hts gX3_equal_X1_isLike rfl rfl rfl (by decide +kernel) ⟨(Nat.le_of_ble_eq_true rfl), (Nat.le_of_ble_eq_true rfl)⟩) hT hI hA hS rfl (hR.2.2.1 _ hv7).1 rfl rfl hl.1 (Nat.le_of_ble_eq_true rfl) dX3_equal_63 ⟨(Nat.le_of_ble_eq_true rfl), (Nat.le_of_ble_eq_true rfl)⟩ (fun r w_16 H locs hp_15 hI hS => ?_)
                obtain ⟨rfl, ⟨hk_17, rfl⟩ | ⟨hk_17, rfl⟩⟩ := hp_15
                · have hk_17 : kdv S (sPl S aj) = kdv S (sPl S bj) ∧ lnv S (sPl S aj) = lnv S (sPl S bj) ∧ ∀ k, k < lnv S (sPl S aj) → itv S (sPl S aj) k = itv S (sPl S bj) k := hk_17
                  refine W.eq (g2 := F0 m 66 ls [.int 1]) rfl ?_
                  refine lv_if_eq (tgt := 73) hx hb dX3_equal_66 (by decide) (fun c => absurd c (by decide)) (fun _ => ?_)
                  refine lv_iconst (v := 1) hx hb dX3_equal_69 (by decide) ?_
                  refine lv_goto (tgt := 74) hx hb dX3_equal_70 (by decide) ?_
                  exact re_i hx hb hr hlocks hT hA hS hI (PoC.of (by
                                        unfold sp_equal
                                        try simp only [pv_nI haj, pv_nI hbj]
                                        rw [if_neg ((fun q => q.elim ho_3 ho_6)), if_neg (c_13), if_neg ((fun q => q.elim ez7 (fun q => q.elim ez11 c_14)))]
                                        rw [if_pos hk_17]) hR rfl) (Nat.le_of_ble_eq_true rfl) (Nat.le_of_ble_eq_true rfl) dX3_equal_74
                · have hk_17 : ¬ (kdv S (sPl S aj) = kdv S (sPl S bj) ∧ lnv S (sPl S aj) = lnv S (sPl S bj) ∧ ∀ k, k < lnv S (sPl S aj) → itv S (sPl S aj) k = itv S (sPl S bj) k) := hk_17
                  refine W.eq (g2 := F0 m 66 ls [.int 0]) rfl ?_
                  refine lv_if_eq (tgt := 73) hx hb dX3_equal_66 (by decide) (fun _ => ?_) (fun c => absurd c (by decide))
                  refine lv_iconst (v := 0) hx hb dX3_equal_73 (by decide) ?_
                  exact re_i hx hb hr hlocks hT hA hS hI (PoC.of (by
                                        unfold sp_equal
                                        try simp only [pv_nI haj, pv_nI hbj]
                                        rw [if_neg ((fun q => q.elim ho_3 ho_6)), if_neg (c_13), if_neg ((fun q => q.elim ez7 (fun q => q.elim ez11 c_14)))]
                                        rw [if_neg hk_17]) hR rfl) (Nat.le_of_ble_eq_true rfl) (Nat.le_of_ble_eq_true rfl) dX3_equal_74
              · refine lv_aload_n hx hb dX3_equal_60 rfl (lv_at hl 1 rfl) ?_
                refine lv_aload hx hb dX3_equal_61 (lv_at hl 0 rfl) ?_
                refine ca_V (As := [.ref (aR D (sPl S bj))]) (rest := []) (r0 := (RX1, TX1, 4)) (ci := 0) ⟨hx, hb, hml, hown, hts⟩ (cc_X1_isLike_p l E A _ (by omega) (by omega) hkn (hR.2.2.1 _ hv7).1 (hR.2.2.1 _ hv11).1 (hR.par hv7 hkn) (fun e9 => hR.par hv11 (by rw [← e9]; exact hkn))) (cwV 1 hts gX3_equal_X1_isLike rfl rfl rfl (by decide +kernel) ⟨(Nat.le_of_ble_eq_true rfl), (Nat.le_of_ble_eq_true rfl)⟩) hT hI hA hS rfl (hR.2.2.1 _ hv7).1 rfl rfl hl.1 (Nat.le_of_ble_eq_true rfl) dX3_equal_63 ⟨(Nat.le_of_ble_eq_true rfl), (Nat.le_of_ble_eq_true rfl)⟩ (fun r w_19 H locs hp_18 hI hS => ?_)
                obtain ⟨rfl, ⟨hk_20, rfl⟩ | ⟨hk_20, rfl⟩⟩ := hp_18
                · have hk_20 : kdv S (sPl S aj) = kdv S (sPl S bj) ∧ lnv S (sPl S aj) = lnv S (sPl S bj) ∧ ∀ k, k < lnv S (sPl S aj) → itv S (sPl S aj) k = itv S (sPl S bj) k := ((hR.like hW hr9 hv11 hkn c_14).mp hk_20)
                  refine W.eq (g2 := F0 m 66 ls [.int 1]) rfl ?_
                  refine lv_if_eq (tgt := 73) hx hb dX3_equal_66 (by decide) (fun c => absurd c (by decide)) (fun _ => ?_)
                  refine lv_iconst (v := 1) hx hb dX3_equal_69 (by decide) ?_
                  refine lv_goto (tgt := 74) hx hb dX3_equal_70 (by decide) ?_
                  exact re_i hx hb hr hlocks hT hA hS hI (PoC.of (by
                                        unfold sp_equal
                                        try simp only [pv_nI haj, pv_nI hbj]
                                        rw [if_neg ((fun q => q.elim ho_3 ho_6)), if_neg (c_13), if_neg ((fun q => q.elim ez7 (fun q => q.elim ez11 c_14)))]
                                        rw [if_pos hk_20]) hR rfl) (Nat.le_of_ble_eq_true rfl) (Nat.le_of_ble_eq_true rfl) dX3_equal_74
                · have hk_20 : ¬ (kdv S (sPl S aj) = kdv S (sPl S bj) ∧ lnv S (sPl S aj) = lnv S (sPl S bj) ∧ ∀ k, k < lnv S (sPl S aj) → itv S (sPl S aj) k = itv S (sPl S bj) k) := (fun q9 => hk_20 ((hR.like hW hr9 hv11 hkn c_14).mpr q9))
                  refine W.eq (g2 := F0 m 66 ls [.int 0]) rfl ?_
                  refine lv_if_eq (tgt := 73) hx hb dX3_equal_66 (by decide) (fun _ => ?_) (fun c => absurd c (by decide))
                  refine lv_iconst (v := 0) hx hb dX3_equal_73 (by decide) ?_
                  exact re_i hx hb hr hlocks hT hA hS hI (PoC.of (by
                                        unfold sp_equal
                                        try simp only [pv_nI haj, pv_nI hbj]
                                        rw [if_neg ((fun q => q.elim ho_3 ho_6)), if_neg (c_13), if_neg ((fun q => q.elim ez7 (fun q => q.elim ez11 c_14)))]
                                        rw [if_neg hk_20]) hR rfl) (Nat.le_of_ble_eq_true rfl) (Nat.le_of_ble_eq_true rfl) dX3_equal_74
            · refine lv_iconst (v := 0) hx hb dX3_equal_58 (by decide) ?_
              exact re_i hx hb hr hlocks hT hA hS hI (PoC.of (by
                                unfold sp_equal
                                try simp only [pv_nI haj, pv_nI hbj]
                                rw [if_neg ((fun q => q.elim ho_3 ho_6)), if_neg (c_13), if_pos (Or.inr (Or.inr (c_14)))]) hR rfl) (Nat.le_of_ble_eq_true rfl) (Nat.le_of_ble_eq_true rfl) dX3_equal_59
          · have c_13 : sPl S aj = sPl S bj := (hR.pl_inj (hW.1 aj) (hW.1 bj)).mp c_13
            refine lv_iconst (v := 1) hx hb dX3_equal_38 (by decide) ?_
            exact re_i hx hb hr hlocks hT hA hS hI (PoC.of (by
                            unfold sp_equal
                            try simp only [pv_nI haj, pv_nI hbj]
                            rw [if_neg ((fun q => q.elim ho_3 ho_6)), if_pos (c_13)]) hR rfl) (Nat.le_of_ble_eq_true rfl) (Nat.le_of_ble_eq_true rfl) dX3_equal_39

set_option maxHeartbeats 4000000 in
set_option maxRecDepth 100000 in
theorem cc_X3_compare (l : Launch) (E : En) (A : Nat → Prop) (w : Wd) {S : Sx} {D : Ad} (a b : Int32) (hW : Wf S) (hR : Rp E S D w) (hb9 : sNr S < 512 ∧ sNt S < 512 ∧ sNl S < 512) : Ct l yX3_compare wsX3_compare ({ frames := 1, cells := 0, slots := 0, locals := 22 } : Room) E A w [.ref (aH D), .int a, .int b] (fun r w' => PoC E D (sp_compare S a b) r w') 0 0 := by
  refine Met.ofW (cc := cX3_compare) (maxL := 5) (ret := (some .int)) (by decide) rfl ?_
  intro pp0 ee0 s m args below meth cc0 s₁ B hml hv
  obtain ⟨rfl, hT, hI, hA⟩ := hv
  have hx := B.exec
  have hb := B.bytes
  have hr := B.returns
  have hts := atoms_spec (ws := wsX3_compare) B.pre
  have hown : s.vm.findClass RX3 = some m.cls := findClass_of_methodNamed B.named
  have hlocks := B.notSynchronized
  have in_X1 : ∀ w ∈ wsX10, w ∈ wsX3_compare := by decide +kernel
  have in_X3 : ∀ w ∈ wsX30, w ∈ wsX3_compare := by decide +kernel
  have hS : va_S A s.heap s.heap [] := va_S.rf
  have hl := lv_entry ([.ref (aH D), .int a, .int b]) (n := 5) (Nat.le_of_ble_eq_true rfl)
  rw [lg_entry_eq]
  generalize (lg_sl ([.ref (aH D), .int a, .int b]) ++ List.replicate (5 - (lg_sl ([.ref (aH D), .int a, .int b])).length) Slot.unset).toArray = ls at hl ⊢
  have hl : lv_has ls 5 [(0, .ref (aH D)), (1, .int a), (2, .int b)] := hl
  refine lv_iload_n hx hb dX3_compare_0 rfl (lv_at hl 1 rfl) ?_
  refine ca_S (As := [.int a]) (rest := []) ⟨hx, hb, hml, hown, hts⟩ (cc_X3_isOutside l E A _ a) (va_cwS 1 hts gX3_compare_X3_isOutside rfl rfl rfl (by decide +kernel) ⟨(Nat.le_of_ble_eq_true rfl), (Nat.le_of_ble_eq_true rfl)⟩) hT hI hA hS rfl rfl hl.1 (Nat.le_of_ble_eq_true rfl) dX3_compare_1 ⟨(Nat.le_of_ble_eq_true rfl), (Nat.le_of_ble_eq_true rfl)⟩ (fun r w_2 H locs hp_1 hI hS => ?_)
  obtain ⟨rfl, ⟨ho_3, rfl⟩ | ⟨ho_3, rfl⟩⟩ := hp_1
  · refine W.eq (g2 := F0 m 4 ls [.int 1]) rfl ?_
    refine lv_if_ne (tgt := 14) hx hb dX3_compare_4 (by decide) (fun _ => ?_) (fun c => absurd c (by decide))
    refine lv_ldc (v := -2000000001) hx hb hown (hts (.constant RX3 23 (-2000000001)) (by decide +kernel)) dX3_compare_14 ?_
    exact re_i hx hb hr hlocks hT hA hS hI (PoC.of (by
            unfold sp_compare
            rw [if_pos (Or.inl ho_3)]
            try rfl) hR rfl) (Nat.le_of_ble_eq_true rfl) (Nat.le_of_ble_eq_true rfl) dX3_compare_16
  · refine W.eq (g2 := F0 m 4 ls [.int 0]) rfl ?_
    refine lv_if_ne (tgt := 14) hx hb dX3_compare_4 (by decide) (fun c => absurd c (by decide)) (fun _ => ?_)
    refine lv_iload_n hx hb dX3_compare_7 rfl (lv_at hl 2 rfl) ?_
    refine ca_S (As := [.int b]) (rest := []) ⟨hx, hb, hml, hown, hts⟩ (cc_X3_isOutside l E A _ b) (va_cwS 1 hts gX3_compare_X3_isOutside rfl rfl rfl (by decide +kernel) ⟨(Nat.le_of_ble_eq_true rfl), (Nat.le_of_ble_eq_true rfl)⟩) hT hI hA hS rfl rfl hl.1 (Nat.le_of_ble_eq_true rfl) dX3_compare_8 ⟨(Nat.le_of_ble_eq_true rfl), (Nat.le_of_ble_eq_true rfl)⟩ (fun r w_5 H locs hp_4 hI hS => ?_)
    obtain ⟨rfl, ⟨ho_6, rfl⟩ | ⟨ho_6, rfl⟩⟩ := hp_4
    · refine W.eq (g2 := F0 m 11 ls [.int 1]) rfl ?_
      refine lv_if_eq (tgt := 17) hx hb dX3_compare_11 (by decide) (fun c => absurd c (by decide)) (fun _ => ?_)
      refine lv_ldc (v := -2000000001) hx hb hown (hts (.constant RX3 23 (-2000000001)) (by decide +kernel)) dX3_compare_14 ?_
      exact re_i hx hb hr hlocks hT hA hS hI (PoC.of (by
                unfold sp_compare
                rw [if_pos (Or.inr (ho_6))]
                try rfl) hR rfl) (Nat.le_of_ble_eq_true rfl) (Nat.le_of_ble_eq_true rfl) dX3_compare_16
    · refine W.eq (g2 := F0 m 11 ls [.int 0]) rfl ?_
      refine lv_if_eq (tgt := 17) hx hb dX3_compare_11 (by decide) (fun _ => ?_) (fun c => absurd c (by decide))
      obtain ⟨aj, haj, rfl⟩ := isP_nat ho_3
      obtain ⟨bj, hbj, rfl⟩ := isP_nat ho_6
      refine lv_aload_n hx hb dX3_compare_17 rfl (lv_at hl 0 rfl) ?_
      refine wr_get (ci := 2) (C := RX3) (T := TX3) (N := 2) (v := .ref (aP D)) hx hb hts in_X3 hown hT hI hR.1 rfl 0 (by decide) (hts (.fieldLink RX3 11 "CopyRows" "places" "[LCopyRows$Row;") (by decide +kernel)) rfl dX3_compare_18 ?_
      refine lv_iload_n hx hb dX3_compare_21 rfl (lv_at hl 1 rfl) ?_
      refine wr_aaldN (t := aj) hx hb hT hI hR.2.1 2 rfl (by omega) (by omega) dX3_compare_22 ?_
      rcases hW.pl D aj with ⟨ez7, ep7⟩ | ⟨ez7, hv7, ep7⟩
      · refine W.eq (g2 := F0 m 23 ls [.null]) (by rw [ep7]; rfl) ?_
        refine lv_astore_nN (lv' := [(3, .null), (0, .ref (aH D)), (1, .int (nI aj)), (2, .int (nI bj))]) hx hb dX3_compare_23 rfl hl (by decide) rfl (fun ls hl => ?_)
        refine lv_aload_n hx hb dX3_compare_24 rfl (lv_at hl 1 rfl) ?_
        refine wr_get (ci := 2) (C := RX3) (T := TX3) (N := 2) (v := .ref (aP D)) hx hb hts in_X3 hown hT hI hR.1 rfl 0 (by decide) (hts (.fieldLink RX3 11 "CopyRows" "places" "[LCopyRows$Row;") (by decide +kernel)) rfl dX3_compare_25 ?_
        refine lv_iload_n hx hb dX3_compare_28 rfl (lv_at hl 3 rfl) ?_
        refine wr_aaldN (t := bj) hx hb hT hI hR.2.1 2 rfl (by omega) (by omega) dX3_compare_29 ?_
        rcases hW.pl D bj with ⟨ez8, ep8⟩ | ⟨ez8, hv8, ep8⟩
        · refine W.eq (g2 := F0 m 30 ls [.null]) (by rw [ep8]; rfl) ?_
          refine lv_astoreN (lv' := [(4, .null), (3, .null), (0, .ref (aH D)), (1, .int (nI aj)), (2, .int (nI bj))]) hx hb dX3_compare_30 hl (by decide) rfl (fun ls hl => ?_)
          refine lv_aload_nN hx hb dX3_compare_32 rfl (lv_at hl 1 rfl) ?_
          refine lv_ifnullN (tgt := 41) hx hb dX3_compare_33 (by decide) ?_
          refine lv_aload_n hx hb dX3_compare_41 rfl (lv_at hl 2 rfl) ?_
          refine lv_iconst (v := 1) hx hb dX3_compare_42 (by decide) ?_
          refine ca_V (As := [.int 1]) (rest := []) (r0 := (RX3, TX3, 2)) (ci := 2) ⟨hx, hb, hml, hown, hts⟩ (cc_X3_fail l E A _ 1 hR) (cwV 1 hts gX3_compare_X3_fail rfl rfl rfl (by decide +kernel) ⟨(Nat.le_of_ble_eq_true rfl), (Nat.le_of_ble_eq_true rfl)⟩) hT hI hA hS rfl hR.1 rfl rfl hl.1 (Nat.le_of_ble_eq_true rfl) dX3_compare_43 ⟨(Nat.le_of_ble_eq_true rfl), (Nat.le_of_ble_eq_true rfl)⟩ (fun r w_10 H locs hp_9 hI hS => ?_)
          obtain ⟨rfl, hR⟩ := hp_9
          refine W.eq (g2 := F0 m 46 ls [.int 0]) rfl ?_
          exact re_i hx hb hr hlocks hT hA hS hI (PoC.of (by
                        unfold sp_compare
                        try simp only [pv_nI haj, pv_nI hbj]
                        rw [if_neg ((fun q => q.elim ho_3 ho_6)), if_pos (Or.inl ez7)]
                        try rfl) hR rfl) (Nat.le_of_ble_eq_true rfl) (Nat.le_of_ble_eq_true rfl) dX3_compare_46
        · refine W.eq (g2 := F0 m 30 ls [.ref (aR D (sPl S bj))]) (by rw [ep8]; rfl) ?_
          refine lv_astore (lv' := [(4, .ref (aR D (sPl S bj))), (3, .null), (0, .ref (aH D)), (1, .int (nI aj)), (2, .int (nI bj))]) hx hb dX3_compare_30 hl (by decide) rfl (fun ls hl => ?_)
          refine lv_aload_nN hx hb dX3_compare_32 rfl (lv_at hl 1 rfl) ?_
          refine lv_ifnullN (tgt := 41) hx hb dX3_compare_33 (by decide) ?_
          refine lv_aload_n hx hb dX3_compare_41 rfl (lv_at hl 2 rfl) ?_
          refine lv_iconst (v := 1) hx hb dX3_compare_42 (by decide) ?_
          refine ca_V (As := [.int 1]) (rest := []) (r0 := (RX3, TX3, 2)) (ci := 2) ⟨hx, hb, hml, hown, hts⟩ (cc_X3_fail l E A _ 1 hR) (cwV 1 hts gX3_compare_X3_fail rfl rfl rfl (by decide +kernel) ⟨(Nat.le_of_ble_eq_true rfl), (Nat.le_of_ble_eq_true rfl)⟩) hT hI hA hS rfl hR.1 rfl rfl hl.1 (Nat.le_of_ble_eq_true rfl) dX3_compare_43 ⟨(Nat.le_of_ble_eq_true rfl), (Nat.le_of_ble_eq_true rfl)⟩ (fun r w_12 H locs hp_11 hI hS => ?_)
          obtain ⟨rfl, hR⟩ := hp_11
          refine W.eq (g2 := F0 m 46 ls [.int 0]) rfl ?_
          exact re_i hx hb hr hlocks hT hA hS hI (PoC.of (by
                        unfold sp_compare
                        try simp only [pv_nI haj, pv_nI hbj]
                        rw [if_neg ((fun q => q.elim ho_3 ho_6)), if_pos (Or.inl ez7)]
                        try rfl) hR rfl) (Nat.le_of_ble_eq_true rfl) (Nat.le_of_ble_eq_true rfl) dX3_compare_46
      · refine W.eq (g2 := F0 m 23 ls [.ref (aR D (sPl S aj))]) (by rw [ep7]; rfl) ?_
        refine lv_astore_n (lv' := [(3, .ref (aR D (sPl S aj))), (0, .ref (aH D)), (1, .int (nI aj)), (2, .int (nI bj))]) hx hb dX3_compare_23 rfl hl (by decide) rfl (fun ls hl => ?_)
        refine lv_aload_n hx hb dX3_compare_24 rfl (lv_at hl 1 rfl) ?_
        refine wr_get (ci := 2) (C := RX3) (T := TX3) (N := 2) (v := .ref (aP D)) hx hb hts in_X3 hown hT hI hR.1 rfl 0 (by decide) (hts (.fieldLink RX3 11 "CopyRows" "places" "[LCopyRows$Row;") (by decide +kernel)) rfl dX3_compare_25 ?_
        refine lv_iload_n hx hb dX3_compare_28 rfl (lv_at hl 3 rfl) ?_
        refine wr_aaldN (t := bj) hx hb hT hI hR.2.1 2 rfl (by omega) (by omega) dX3_compare_29 ?_
        rcases hW.pl D bj with ⟨ez13, ep13⟩ | ⟨ez13, hv13, ep13⟩
        · refine W.eq (g2 := F0 m 30 ls [.null]) (by rw [ep13]; rfl) ?_
          refine lv_astoreN (lv' := [(4, .null), (3, .ref (aR D (sPl S aj))), (0, .ref (aH D)), (1, .int (nI aj)), (2, .int (nI bj))]) hx hb dX3_compare_30 hl (by decide) rfl (fun ls hl => ?_)
          refine lv_aload_n hx hb dX3_compare_32 rfl (lv_at hl 1 rfl) ?_
          refine lv_ifnull hx hb dX3_compare_33 ?_
          refine lv_aloadN hx hb dX3_compare_36 (lv_at hl 0 rfl) ?_
          refine lv_ifnonnullN hx hb dX3_compare_38 ?_
          refine lv_aload_n hx hb dX3_compare_41 rfl (lv_at hl 2 rfl) ?_
          refine lv_iconst (v := 1) hx hb dX3_compare_42 (by decide) ?_
          refine ca_V (As := [.int 1]) (rest := []) (r0 := (RX3, TX3, 2)) (ci := 2) ⟨hx, hb, hml, hown, hts⟩ (cc_X3_fail l E A _ 1 hR) (cwV 1 hts gX3_compare_X3_fail rfl rfl rfl (by decide +kernel) ⟨(Nat.le_of_ble_eq_true rfl), (Nat.le_of_ble_eq_true rfl)⟩) hT hI hA hS rfl hR.1 rfl rfl hl.1 (Nat.le_of_ble_eq_true rfl) dX3_compare_43 ⟨(Nat.le_of_ble_eq_true rfl), (Nat.le_of_ble_eq_true rfl)⟩ (fun r w_15 H locs hp_14 hI hS => ?_)
          obtain ⟨rfl, hR⟩ := hp_14
          refine W.eq (g2 := F0 m 46 ls [.int 0]) rfl ?_
          exact re_i hx hb hr hlocks hT hA hS hI (PoC.of (by
                        unfold sp_compare
                        try simp only [pv_nI haj, pv_nI hbj]
                        rw [if_neg ((fun q => q.elim ho_3 ho_6)), if_pos (Or.inr (ez13))]
                        try rfl) hR rfl) (Nat.le_of_ble_eq_true rfl) (Nat.le_of_ble_eq_true rfl) dX3_compare_46
        · refine W.eq (g2 := F0 m 30 ls [.ref (aR D (sPl S bj))]) (by rw [ep13]; rfl) ?_
          refine lv_astore (lv' := [(4, .ref (aR D (sPl S bj))), (3, .ref (aR D (sPl S aj))), (0, .ref (aH D)), (1, .int (nI aj)), (2, .int (nI bj))]) hx hb dX3_compare_30 hl (by decide) rfl (fun ls hl => ?_)
          refine lv_aload_n hx hb dX3_compare_32 rfl (lv_at hl 1 rfl) ?_
          refine lv_ifnull hx hb dX3_compare_33 ?_
          refine lv_aload hx hb dX3_compare_36 (lv_at hl 0 rfl) ?_
          refine lv_ifnonnull (tgt := 47) hx hb dX3_compare_38 (by decide) ?_
          refine lv_aload_n hx hb dX3_compare_47 rfl (lv_at hl 1 rfl) ?_
          refine ca_V (As := []) (rest := []) (r0 := (RX1, TX1, 4)) (ci := 0) ⟨hx, hb, hml, hown, hts⟩ (cc_X1_isOfNumbers l E A _ (hR.2.2.1 _ hv7).1) (cwV 0 hts gX3_compare_X1_isOfNumbers rfl rfl rfl (by decide +kernel) ⟨(Nat.le_of_ble_eq_true rfl), (Nat.le_of_ble_eq_true rfl)⟩) hT hI hA hS rfl (hR.2.2.1 _ hv7).1 rfl rfl hl.1 (Nat.le_of_ble_eq_true rfl) dX3_compare_48 ⟨(Nat.le_of_ble_eq_true rfl), (Nat.le_of_ble_eq_true rfl)⟩ (fun r w_17 H locs hp_16 hI hS => ?_)
          obtain ⟨rfl, ⟨hn_18, rfl⟩ | ⟨hn_18, rfl⟩⟩ := hp_16
          · have hn_18 : isN (kdv S (sPl S aj)) := hn_18
            refine W.eq (g2 := F0 m 51 ls [.int 1]) rfl ?_
            refine lv_if_eq (tgt := 66) hx hb dX3_compare_51 (by decide) (fun c => absurd c (by decide)) (fun _ => ?_)
            refine lv_aload_n hx hb dX3_compare_54 rfl (lv_at hl 1 rfl) ?_
            refine wr_get (ci := 0) (C := RX1) (T := TX1) (N := 4) (v := .int (kdv S (sPl S aj))) hx hb hts in_X1 hown hT hI (hR.2.2.1 _ hv7).1 rfl 0 (by decide) (hts (.fieldLink RX3 53 "CopyRows$Row" "kind" "I") (by decide +kernel)) rfl dX3_compare_55 ?_
            refine lv_aload hx hb dX3_compare_58 (lv_at hl 0 rfl) ?_
            refine wr_get (ci := 0) (C := RX1) (T := TX1) (N := 4) (v := .int (kdv S (sPl S bj))) hx hb hts in_X1 hown hT hI (hR.2.2.1 _ hv13).1 rfl 0 (by decide) (hts (.fieldLink RX3 53 "CopyRows$Row" "kind" "I") (by decide +kernel)) rfl dX3_compare_60 ?_
            refine lv_icmp_eq (tgt := 72) hx hb dX3_compare_63 (by decide) (fun c_19 => ?_) (fun c_19 => ?_)
            · have hl1 := hW.ln hv7
              have hl2 := hW.ln hv13
              refine lv_aload_n hx hb dX3_compare_72 rfl (lv_at hl 2 rfl) ?_
              refine lv_iconst (v := 0) hx hb dX3_compare_73 (by decide) ?_
              refine wr_put (ci := 2) (C := RX3) (T := TX3) (N := 2) (v := .int 0) (ty := .int) hx hb hts in_X3 tyX3 tyX3_ok nmX3 hown hT hI hS hR.1 rfl 1 (by decide) (hts (.fieldLink RX3 15 "CopyRows" "code" "I") (by decide +kernel)) rfl (by decide +kernel) rfl rfl (Nat.le_of_ble_eq_true rfl) dX3_compare_74 (fun H locs hI hS => ?_)
              have hR := hR.cod (0)
              refine lv_aload_n hx hb dX3_compare_77 rfl (lv_at hl 1 rfl) ?_
              refine lv_aload hx hb dX3_compare_78 (lv_at hl 0 rfl) ?_
              refine ca_V (As := [.ref (aR D (sPl S bj))]) (rest := []) (r0 := (RX1, TX1, 4)) (ci := 0) ⟨hx, hb, hml, hown, hts⟩ (cc_X1_order l E A _ (n := lnv S (sPl S aj)) (n1 := lnv S (sPl S bj)) (f := itv S (sPl S aj)) (f1 := itv S (sPl S bj)) (by omega) (by omega) (hR.2.2.1 _ hv7).1 (hR.2.2.1 _ hv13).1 (hR.num hv7 hn_18) (hR.num hv13 (by rw [show kdv (uCod S 0) (sPl S bj) = kdv S (sPl S aj) from c_19.symm]; exact hn_18))) (cwV 1 hts gX3_compare_X1_order rfl rfl rfl (by decide +kernel) ⟨(Nat.le_of_ble_eq_true rfl), (Nat.le_of_ble_eq_true rfl)⟩) hT hI hA hS rfl (hR.2.2.1 _ hv7).1 rfl rfl hl.1 (Nat.le_of_ble_eq_true rfl) dX3_compare_80 ⟨(Nat.le_of_ble_eq_true rfl), (Nat.le_of_ble_eq_true rfl)⟩ (fun r w_22 H locs hp_21 hI hS => ?_)
              obtain ⟨rfl, rfl⟩ := hp_21
              refine W.eq (g2 := F0 m 83 ls [.int (cmpF (itv S (sPl S aj)) (itv S (sPl S bj)) (lnv S (sPl S aj)) (lnv S (sPl S bj)) (lnv S (sPl S aj)) 0)]) rfl ?_
              exact re_i hx hb hr hlocks hT hA hS hI (PoC.of (by
                                unfold sp_compare
                                try simp only [pv_nI haj, pv_nI hbj]
                                rw [if_neg ((fun q => q.elim ho_3 ho_6)), if_neg ((fun q => q.elim ez7 ez13)), if_neg ((fun q => q.elim (not_not_intro hn_18) (not_not_intro c_19)))]
                                try rfl) hR rfl) (Nat.le_of_ble_eq_true rfl) (Nat.le_of_ble_eq_true rfl) dX3_compare_83
            · refine lv_aload_n hx hb dX3_compare_66 rfl (lv_at hl 2 rfl) ?_
              refine lv_iconst (v := 5) hx hb dX3_compare_67 (by decide) ?_
              refine ca_V (As := [.int 5]) (rest := []) (r0 := (RX3, TX3, 2)) (ci := 2) ⟨hx, hb, hml, hown, hts⟩ (cc_X3_fail l E A _ 5 hR) (cwV 1 hts gX3_compare_X3_fail rfl rfl rfl (by decide +kernel) ⟨(Nat.le_of_ble_eq_true rfl), (Nat.le_of_ble_eq_true rfl)⟩) hT hI hA hS rfl hR.1 rfl rfl hl.1 (Nat.le_of_ble_eq_true rfl) dX3_compare_68 ⟨(Nat.le_of_ble_eq_true rfl), (Nat.le_of_ble_eq_true rfl)⟩ (fun r w_24 H locs hp_23 hI hS => ?_)
              obtain ⟨rfl, hR⟩ := hp_23
              refine W.eq (g2 := F0 m 71 ls [.int 0]) rfl ?_
              exact re_i hx hb hr hlocks hT hA hS hI (PoC.of (by
                                unfold sp_compare
                                try simp only [pv_nI haj, pv_nI hbj]
                                rw [if_neg ((fun q => q.elim ho_3 ho_6)), if_neg ((fun q => q.elim ez7 ez13)), if_pos (Or.inr (c_19))]
                                try rfl) hR rfl) (Nat.le_of_ble_eq_true rfl) (Nat.le_of_ble_eq_true rfl) dX3_compare_71
          · have hn_18 : ¬ isN (kdv S (sPl S aj)) := hn_18
            refine W.eq (g2 := F0 m 51 ls [.int 0]) rfl ?_
            refine lv_if_eq (tgt := 66) hx hb dX3_compare_51 (by decide) (fun _ => ?_) (fun c => absurd c (by decide))
            refine lv_aload_n hx hb dX3_compare_66 rfl (lv_at hl 2 rfl) ?_
            refine lv_iconst (v := 5) hx hb dX3_compare_67 (by decide) ?_
            refine ca_V (As := [.int 5]) (rest := []) (r0 := (RX3, TX3, 2)) (ci := 2) ⟨hx, hb, hml, hown, hts⟩ (cc_X3_fail l E A _ 5 hR) (cwV 1 hts gX3_compare_X3_fail rfl rfl rfl (by decide +kernel) ⟨(Nat.le_of_ble_eq_true rfl), (Nat.le_of_ble_eq_true rfl)⟩) hT hI hA hS rfl hR.1 rfl rfl hl.1 (Nat.le_of_ble_eq_true rfl) dX3_compare_68 ⟨(Nat.le_of_ble_eq_true rfl), (Nat.le_of_ble_eq_true rfl)⟩ (fun r w_26 H locs hp_25 hI hS => ?_)
            obtain ⟨rfl, hR⟩ := hp_25
            refine W.eq (g2 := F0 m 71 ls [.int 0]) rfl ?_
            exact re_i hx hb hr hlocks hT hA hS hI (PoC.of (by
                            unfold sp_compare
                            try simp only [pv_nI haj, pv_nI hbj]
                            rw [if_neg ((fun q => q.elim ho_3 ho_6)), if_neg ((fun q => q.elim ez7 ez13)), if_pos (Or.inl hn_18)]
                            try rfl) hR rfl) (Nat.le_of_ble_eq_true rfl) (Nat.le_of_ble_eq_true rfl) dX3_compare_71

set_option maxHeartbeats 4000000 in
set_option maxRecDepth 100000 in
theorem cc_X3_mean (l : Launch) (E : En) (A : Nat → Prop) (w : Wd) {S : Sx} {D : Ad} (p : Int32) (hW : Wf S) (hR : Rp E S D w) (hb9 : sNr S < 512 ∧ sNt S < 512 ∧ sNl S < 512) : Ct l yX3_mean wsX3_mean ({ frames := 1, cells := 0, slots := 0, locals := 23 } : Room) E A w [.ref (aH D), .int p] (fun r w' => PoC E D (sp_mean S p) r w') 0 0 := by
  refine Met.ofW (cc := cX3_mean) (maxL := 3) (ret := (some .int)) (by decide) rfl ?_
  intro pp0 ee0 s m args below meth cc0 s₁ B hml hv
  obtain ⟨rfl, hT, hI, hA⟩ := hv
  have hx := B.exec
  have hb := B.bytes
  have hr := B.returns
  have hts := atoms_spec (ws := wsX3_mean) B.pre
  have hown : s.vm.findClass RX3 = some m.cls := findClass_of_methodNamed B.named
  have hlocks := B.notSynchronized
  have in_X1 : ∀ w ∈ wsX10, w ∈ wsX3_mean := by decide +kernel
  have hS : va_S A s.heap s.heap [] := va_S.rf
  have hl := lv_entry ([.ref (aH D), .int p]) (n := 3) (Nat.le_of_ble_eq_true rfl)
  rw [lg_entry_eq]
  generalize (lg_sl ([.ref (aH D), .int p]) ++ List.replicate (3 - (lg_sl ([.ref (aH D), .int p])).length) Slot.unset).toArray = ls at hl ⊢
  have hl : lv_has ls 3 [(0, .ref (aH D)), (1, .int p)] := hl
  refine lv_iload_n hx hb dX3_mean_0 rfl (lv_at hl 1 rfl) ?_
  refine ca_S (As := [.int p]) (rest := []) ⟨hx, hb, hml, hown, hts⟩ (cc_X3_isOutside l E A _ p) (va_cwS 1 hts gX3_mean_X3_isOutside rfl rfl rfl (by decide +kernel) ⟨(Nat.le_of_ble_eq_true rfl), (Nat.le_of_ble_eq_true rfl)⟩) hT hI hA hS rfl rfl hl.1 (Nat.le_of_ble_eq_true rfl) dX3_mean_1 ⟨(Nat.le_of_ble_eq_true rfl), (Nat.le_of_ble_eq_true rfl)⟩ (fun r w_2 H locs hp_1 hI hS => ?_)
  obtain ⟨rfl, ⟨ho_3, rfl⟩ | ⟨ho_3, rfl⟩⟩ := hp_1
  · refine W.eq (g2 := F0 m 4 ls [.int 1]) rfl ?_
    refine lv_if_eq (tgt := 10) hx hb dX3_mean_4 (by decide) (fun c => absurd c (by decide)) (fun _ => ?_)
    refine lv_ldc (v := -2000000001) hx hb hown (hts (.constant RX3 23 (-2000000001)) (by decide +kernel)) dX3_mean_7 ?_
    exact re_i hx hb hr hlocks hT hA hS hI (PoC.of (by
            unfold sp_mean
            rw [if_pos (ho_3)]
            try rfl) hR rfl) (Nat.le_of_ble_eq_true rfl) (Nat.le_of_ble_eq_true rfl) dX3_mean_9
  · refine W.eq (g2 := F0 m 4 ls [.int 0]) rfl ?_
    refine lv_if_eq (tgt := 10) hx hb dX3_mean_4 (by decide) (fun _ => ?_) (fun c => absurd c (by decide))
    refine lv_aload_n hx hb dX3_mean_10 rfl (lv_at hl 0 rfl) ?_
    refine lv_iload_n hx hb dX3_mean_11 rfl (lv_at hl 1 rfl) ?_
    refine lv_iconst (v := 3) hx hb dX3_mean_12 (by decide) ?_
    obtain ⟨pj, hpj, rfl⟩ := isP_nat ho_3
    refine ca_V (As := [.int (nI pj), .int 3]) (rest := []) (r0 := (RX3, TX3, 2)) (ci := 2) ⟨hx, hb, hml, hown, hts⟩ (cc_X3_rowOf l E A _ (by omega) msk3 hW hR) (cwV 2 hts gX3_mean_X3_rowOf rfl rfl rfl (by decide +kernel) ⟨(Nat.le_of_ble_eq_true rfl), (Nat.le_of_ble_eq_true rfl)⟩) hT hI hA hS rfl hR.1 rfl rfl hl.1 (Nat.le_of_ble_eq_true rfl) dX3_mean_13 ⟨(Nat.le_of_ble_eq_true rfl), (Nat.le_of_ble_eq_true rfl)⟩ (fun r w_5 H locs hp_4 hI hS => ?_)
    rcases hp_4 with ⟨ez6, rfl, hR⟩ | ⟨ez6, hv6, hk6, rfl, hR⟩ | ⟨ez6, hv6, hk6, rfl, hR⟩
    · refine W.eq (g2 := F0 m 16 ls [.null]) rfl ?_
      refine lv_astore_nN (lv' := [(2, .null), (0, .ref (aH D)), (1, .int (nI pj))]) hx hb dX3_mean_16 rfl hl (by decide) rfl (fun ls hl => ?_)
      refine lv_aload_nN hx hb dX3_mean_17 rfl (lv_at hl 0 rfl) ?_
      refine lv_ifnonnullN hx hb dX3_mean_18 ?_
      refine lv_iconst (v := 0) hx hb dX3_mean_21 (by decide) ?_
      exact re_i hx hb hr hlocks hT hA hS hI (PoC.of (by
                unfold sp_mean
                try simp only [pv_nI hpj]
                rw [if_neg (ho_3), if_pos (ez6)]
                try rfl) hR rfl) (Nat.le_of_ble_eq_true rfl) (Nat.le_of_ble_eq_true rfl) dX3_mean_22
    · refine W.eq (g2 := F0 m 16 ls [.null]) rfl ?_
      refine lv_astore_nN (lv' := [(2, .null), (0, .ref (aH D)), (1, .int (nI pj))]) hx hb dX3_mean_16 rfl hl (by decide) rfl (fun ls hl => ?_)
      refine lv_aload_nN hx hb dX3_mean_17 rfl (lv_at hl 0 rfl) ?_
      refine lv_ifnonnullN hx hb dX3_mean_18 ?_
      refine lv_iconst (v := 0) hx hb dX3_mean_21 (by decide) ?_
      exact re_i hx hb hr hlocks hT hA hS hI (PoC.of (by
                unfold sp_mean
                try simp only [pv_nI hpj]
                rw [if_neg (ho_3), if_neg (ez6), if_pos (hk6)]
                try rfl) hR rfl) (Nat.le_of_ble_eq_true rfl) (Nat.le_of_ble_eq_true rfl) dX3_mean_22
    · have hln6 := hW.ln hv6
      have hr6 : vR S (sPl S pj) := row_of_N hv6 hk6
      refine W.eq (g2 := F0 m 16 ls [.ref (aR D (sPl S pj))]) rfl ?_
      refine lv_astore_n (lv' := [(2, .ref (aR D (sPl S pj))), (0, .ref (aH D)), (1, .int (nI pj))]) hx hb dX3_mean_16 rfl hl (by decide) rfl (fun ls hl => ?_)
      refine lv_aload_n hx hb dX3_mean_17 rfl (lv_at hl 0 rfl) ?_
      refine lv_ifnonnull (tgt := 23) hx hb dX3_mean_18 (by decide) ?_
      refine lv_aload_n hx hb dX3_mean_23 rfl (lv_at hl 0 rfl) ?_
      refine wr_get (ci := 0) (C := RX1) (T := TX1) (N := 4) (v := .int (nI (lnv S (sPl S pj)))) hx hb hts in_X1 hown hT hI (hR.2.2.1 _ hv6).1 rfl 1 (by decide) (hts (.fieldLink RX3 43 "CopyRows$Row" "length" "I") (by decide +kernel)) rfl dX3_mean_24 ?_
      refine lv_if_ne (tgt := 39) hx hb dX3_mean_27 (by decide) (fun c_7 => ?_) (fun c_7 => ?_)
      · have c_7 : ¬ lnv S (sPl S pj) = 0 := fun q => c_7 ((nI_eq (a := lnv S (sPl S pj)) (b := 0) (by omega) (by omega)).mpr q)
        refine lv_aload_n hx hb dX3_mean_39 rfl (lv_at hl 0 rfl) ?_
        refine ca_V (As := []) (rest := []) (r0 := (RX1, TX1, 4)) (ci := 0) ⟨hx, hb, hml, hown, hts⟩ (cc_X1_total l E A _ (z := lnv S (sPl S pj)) (f := itv S (sPl S pj)) (by omega) (hR.2.2.1 _ hv6).1 (hR.num hv6 hk6)) (cwV 0 hts gX3_mean_X1_total rfl rfl rfl (by decide +kernel) ⟨(Nat.le_of_ble_eq_true rfl), (Nat.le_of_ble_eq_true rfl)⟩) hT hI hA hS rfl (hR.2.2.1 _ hv6).1 rfl rfl hl.1 (Nat.le_of_ble_eq_true rfl) dX3_mean_40 ⟨(Nat.le_of_ble_eq_true rfl), (Nat.le_of_ble_eq_true rfl)⟩ (fun r w_9 H locs hp_8 hI hS => ?_)
        obtain ⟨rfl, rfl⟩ := hp_8
        refine W.eq (g2 := F0 m 43 ls [.int (sumF (itv S (sPl S pj)) (lnv S (sPl S pj)))]) rfl ?_
        refine lv_aload_n hx hb dX3_mean_43 rfl (lv_at hl 0 rfl) ?_
        refine wr_get (ci := 0) (C := RX1) (T := TX1) (N := 4) (v := .int (nI (lnv S (sPl S pj)))) hx hb hts in_X1 hown hT hI (hR.2.2.1 _ hv6).1 rfl 1 (by decide) (hts (.fieldLink RX3 43 "CopyRows$Row" "length" "I") (by decide +kernel)) rfl dX3_mean_44 ?_
        refine lv_idiv hx hb dX3_mean_47 (fun q9 => c_7 ((nI_eq (a := lnv S (sPl S pj)) (b := 0) (by omega) (by omega)).mp q9)) ?_
        exact re_i hx hb hr hlocks hT hA hS hI (PoC.of (by
                    unfold sp_mean
                    try simp only [pv_nI hpj]
                    rw [if_neg (ho_3), if_neg (ez6), if_neg ((not_not_intro hk6)), if_neg (c_7)]
                    try rfl) hR rfl) (Nat.le_of_ble_eq_true rfl) (Nat.le_of_ble_eq_true rfl) dX3_mean_48
      · have c_7 : lnv S (sPl S pj) = 0 := (nI_eq (a := lnv S (sPl S pj)) (b := 0) (by omega) (by omega)).mp c_7
        refine lv_aload_n hx hb dX3_mean_30 rfl (lv_at hl 1 rfl) ?_
        refine lv_bipush (v := 6) hx hb dX3_mean_31 (by decide) ?_
        refine ca_V (As := [.int 6]) (rest := []) (r0 := (RX3, TX3, 2)) (ci := 2) ⟨hx, hb, hml, hown, hts⟩ (cc_X3_fail l E A _ 6 hR) (cwV 1 hts gX3_mean_X3_fail rfl rfl rfl (by decide +kernel) ⟨(Nat.le_of_ble_eq_true rfl), (Nat.le_of_ble_eq_true rfl)⟩) hT hI hA hS rfl hR.1 rfl rfl hl.1 (Nat.le_of_ble_eq_true rfl) dX3_mean_33 ⟨(Nat.le_of_ble_eq_true rfl), (Nat.le_of_ble_eq_true rfl)⟩ (fun r w_11 H locs hp_10 hI hS => ?_)
        obtain ⟨rfl, hR⟩ := hp_10
        refine W.eq (g2 := F0 m 36 ls [.int 0]) rfl ?_
        refine lv_goto (tgt := 48) hx hb dX3_mean_36 (by decide) ?_
        exact re_i hx hb hr hlocks hT hA hS hI (PoC.of (by
                    unfold sp_mean
                    try simp only [pv_nI hpj]
                    rw [if_neg (ho_3), if_neg (ez6), if_neg ((not_not_intro hk6)), if_pos (c_7)]
                    try rfl) hR rfl) (Nat.le_of_ble_eq_true rfl) (Nat.le_of_ble_eq_true rfl) dX3_mean_48
