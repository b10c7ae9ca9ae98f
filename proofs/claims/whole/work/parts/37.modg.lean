theorem cpy_zero {α : Type} {f g : Nat → α} {i j : Nat} : va_cpy f g i j 0 = g := by
  funext k
  unfold va_cpy
  rw [if_neg (by omega)]
theorem cpy_step {f g : Nat → Int32} {i j t : Nat} : upd (va_cpy f g i j t) (j + t) (f (i + t)) = va_cpy f g i j (t + 1) := by
  funext k
  unfold va_cpy upd
  by_cases h : k = j + t
  · subst h; rw [if_pos rfl, if_pos (by omega), show j + t - j = t by omega]
  · rw [if_neg h]
    by_cases h2 : j ≤ k ∧ k < j + t
    · simp only []; rw [if_pos h2, if_pos (by omega)]
    · simp only []; rw [if_neg h2, if_neg (by omega)]
theorem up_up {α : Type} {f : Nat → α} {r : Nat} {x y : α} : va_up (va_up f r x) r y = va_up f r y := by
  funext k
  by_cases h : k = r <;> simp [va_up, h]
theorem up_id {α : Type} {f : Nat → α} {r : Nat} : va_up f r (f r) = f := by
  funext k
  by_cases h : k = r <;> simp [va_up, h]
theorem uRow_id {S : Sx} {v : Int32} (hv : vR S v) : uRow S (ix v) (itv S v) = S := by
  rw [itv_r hv]
  show (S.1, S.2.1, S.2.2.1, S.2.2.2.1, S.2.2.2.2.1, va_up S.2.2.2.2.2.1 (ix v) (S.2.2.2.2.2.1 (ix v)), S.2.2.2.2.2.2) = S
  rw [up_id]
theorem row_step {S : Sx} {v : Int32} (hv : vR S v) {F : Nat → Int32} {k : Nat} {x : Int32} : uRow (uRow S (ix v) F) (ix v) (upd (itv (uRow S (ix v) F) v) k x) = uRow S (ix v) (upd F k x) := by
  rw [itv_row hv.1, if_pos rfl]
  show (S.1, S.2.1, S.2.2.1, S.2.2.2.1, S.2.2.2.2.1, va_up (va_up S.2.2.2.2.2.1 (ix v) F) (ix v) (upd F k x), S.2.2.2.2.2.2) = _
  rw [up_up]
theorem cpy_got {S : Sx} {u v : Int32} {i j t : Nat} (h : ∀ k, k < t → isN (kdv S v) ∨ fitS S (kdv S u) (itv S u (i + k)) (kdv S v)) (k : Nat) : va_cpy (itv S u) (itv S v) i j t k = itv S v k ∨ ∃ m, va_cpy (itv S u) (itv S v) i j t k = itv S u m ∧ (¬ isN (kdv S v) → fitS S (kdv S u) (itv S u m) (kdv S v)) := by
  unfold va_cpy
  by_cases h2 : j ≤ k ∧ k < j + t
  · rw [if_pos h2]
    exact Or.inr ⟨_, rfl, fun q => (h (k - j) (by omega)).resolve_left q⟩
  · rw [if_neg h2]; exact Or.inl rfl
theorem mvN_at {S : Sx} {u v : Int32} {i n t : Nat} (hk : ¬ isN (kdv S v)) (ht : t < n) (h : ∀ k, k < t → isN (kdv S v) ∨ fitS S (kdv S u) (itv S u (i + k)) (kdv S v)) (h2 : ¬ fitS S (kdv S u) (itv S u (i + t)) (kdv S v)) : mvN S u v i n = t := by
  unfold mvN
  rw [if_neg hk]
  exact (preN_uniq (by omega) (fun k q => decide_eq_true ((h k q).resolve_left hk)) (fun _ => decide_eq_false h2)).symm
theorem mvN_all {S : Sx} {u v : Int32} {i n : Nat} (h : ∀ k, k < n → isN (kdv S v) ∨ fitS S (kdv S u) (itv S u (i + k)) (kdv S v)) : mvN S u v i n = n := by
  unfold mvN
  by_cases hk : isN (kdv S v)
  · rw [if_pos hk]
  · rw [if_neg hk]
    exact (preN_uniq (Nat.le_refl _) (fun k q => decide_eq_true ((h k q).resolve_left hk)) (fun q => absurd q (Nat.lt_irrefl _))).symm
theorem fits_lt {k t : Nat} {P : Nat → Prop} (h : ∀ k, k < t → P k) (h2 : P t) : ∀ k, k < t + 1 → P k := by
  intro k hk
  rcases Nat.lt_or_ge k t with q | q
  · exact h k q
  · rw [show k = t by omega]; exact h2
theorem rot_inj {n st k t : Nat} (hk : k < n) (ht : t < n) (h : (k + st) % n = (t + st) % n) (hs : st < n) : k = t := by
  have e : ∀ x, x < n → (x + st) % n = if x + st < n then x + st else x + st - n := by
    intro x hx
    by_cases q : x + st < n
    · rw [if_pos q, Nat.mod_eq_of_lt q]
    · rw [if_neg q, Nat.mod_eq_sub_mod (by omega), Nat.mod_eq_of_lt (by omega)]
  rw [e k hk, e t ht] at h
  split at h <;> split at h <;> omega
theorem rot_fill {f tt : Nat → Int32} {n st t : Nat} (hs : st < n) (ht : t < n) (h : ∀ k, k < t → tt ((k + st) % n) = f k) : ∀ k, k < t + 1 → upd tt ((t + st) % n) (f t) ((k + st) % n) = f k := by
  intro k hk
  unfold upd
  by_cases e : (k + st) % n = (t + st) % n
  · have := rot_inj (by omega) ht e hs
    subst this
    rw [if_pos rfl]
  · rw [if_neg e]
    refine h k ?_
    rcases Nat.lt_or_ge k t with q | q
    · exact q
    · exact absurd (by rw [show k = t by omega]) e
theorem rot_read {f tt : Nat → Int32} {n st : Nat} (hs : st < n) (h : ∀ k, k < n → tt ((k + st) % n) = f k) {k : Nat} (hk : k < n) : tt k = f ((k + (n - st)) % n) := by
  have h1 : (k + (n - st)) % n < n := Nat.mod_lt _ (by omega)
  have h2 : ((k + (n - st)) % n + st) % n = k := by
    by_cases q : k < st
    · rw [Nat.mod_eq_of_lt (show k + (n - st) < n by omega), show k + (n - st) + st = k + n by omega, Nat.add_mod_right, Nat.mod_eq_of_lt hk]
    · rw [Nat.mod_eq_sub_mod (show n ≤ k + (n - st) by omega), Nat.mod_eq_of_lt (show k + (n - st) - n < n by omega), show k + (n - st) - n + st = k by omega, Nat.mod_eq_of_lt hk]
  have := h _ h1
  rwa [h2] at this
theorem rot_put {f tt : Nat → Int32} {t : Nat} : upd (fun k => if k < t then tt k else f k) t (tt t) = fun k => if k < t + 1 then tt k else f k := by
  funext k
  unfold upd
  by_cases e : k = t
  · subst e; rw [if_pos rfl, if_pos (by omega)]
  · rw [if_neg e]
    by_cases q : k < t
    · simp only []; rw [if_pos q, if_pos (by omega)]
    · simp only []; rw [if_neg q, if_neg (by omega)]
theorem Wf.perm {S : Sx} (hW : Wf S) {v : Int32} (hv : vR S v) {f : Nat → Int32} (h : ∀ k, ∃ j, f k = itv S v j) : Wf (uRow S (ix v) f) := by
  refine hW.set hv (fun hk k => ?_) (fun hk k => ?_)
  · obtain ⟨j, e⟩ := h k
    rw [e]; exact (hW.row hv).2.2.1 hk j
  · obtain ⟨j, e⟩ := h k
    rw [e]; exact (hW.row hv).2.2.2 hk j
set_option maxHeartbeats 4000000 in
set_option maxRecDepth 100000 in
theorem cc_X4_move (l : Launch) (E : En) (A : Nat → Prop) (w : Wd) {S : Sx} {M : Md} {tt : Nat → Int32} (x i y j n : Int32) (hW : Wf S) (hR : Rm E S M tt w) (hb9 : sNr S < 512 ∧ sNt S < 512 ∧ sNl S < 512) : Ct l yX4_move wsX4_move ({ frames := 2, cells := 0, slots := 0, locals := 46 } : Room) E A w [.ref (mH M), .int x, .int i, .int y, .int j, .int n] (fun r w' => PoM E M (sp_move S x i y j n) r w') 0 0 := by
  refine Met.ofW (cc := cX4_move) (maxL := 10) (ret := (some .int)) (by decide) rfl ?_
  intro pp0 ee0 s m args below meth cc0 s₁ B hml hv
  obtain ⟨rfl, hT, hI, hA⟩ := hv
  have hx := B.exec
  have hb := B.bytes
  have hr := B.returns
  have hts := atoms_spec (ws := wsX4_move) B.pre
  have hown : s.vm.findClass RX4 = some m.cls := findClass_of_methodNamed B.named
  have hlocks := B.notSynchronized
  have in_X4 : ∀ w ∈ wsX40, w ∈ wsX4_move := by decide +kernel
  have hS : va_S A s.heap s.heap [] := va_S.rf
  have hl := lv_entry ([.ref (mH M), .int x, .int i, .int y, .int j, .int n]) (n := 10) (Nat.le_of_ble_eq_true rfl)
  rw [lg_entry_eq]
  generalize (lg_sl ([.ref (mH M), .int x, .int i, .int y, .int j, .int n]) ++ List.replicate (10 - (lg_sl ([.ref (mH M), .int x, .int i, .int y, .int j, .int n])).length) Slot.unset).toArray = ls at hl ⊢
  have hl : lv_has ls 10 [(0, .ref (mH M)), (1, .int x), (2, .int i), (3, .int y), (4, .int j), (5, .int n)] := hl
  refine lv_iload_n hx hb dX4_move_0 rfl (lv_at hl 1 rfl) ?_
  refine ca_S (As := [.int x]) (rest := []) ⟨hx, hb, hml, hown, hts⟩ (cc_X4_isPlace l E A _ x) (va_cwS 1 hts gX4_move_X4_isPlace rfl rfl rfl (by decide +kernel) ⟨(Nat.le_of_ble_eq_true rfl), (Nat.le_of_ble_eq_true rfl)⟩) hT hI hA hS rfl rfl hl.1 (Nat.le_of_ble_eq_true rfl) dX4_move_1 ⟨(Nat.le_of_ble_eq_true rfl), (Nat.le_of_ble_eq_true rfl)⟩ (fun r w_2 H locs hp_1 hI hS => ?_)
  obtain ⟨rfl, ⟨ho_3, rfl⟩ | ⟨ho_3, rfl⟩⟩ := hp_1
  · refine W.eq (g2 := F0 m 4 ls [.int 1]) rfl ?_
    refine lv_if_eq (tgt := 14) hx hb dX4_move_4 (by decide) (fun c => absurd c (by decide)) (fun _ => ?_)
    refine lv_iload_n hx hb dX4_move_7 rfl (lv_at hl 3 rfl) ?_
    refine ca_S (As := [.int y]) (rest := []) ⟨hx, hb, hml, hown, hts⟩ (cc_X4_isPlace l E A _ y) (va_cwS 1 hts gX4_move_X4_isPlace rfl rfl rfl (by decide +kernel) ⟨(Nat.le_of_ble_eq_true rfl), (Nat.le_of_ble_eq_true rfl)⟩) hT hI hA hS rfl rfl hl.1 (Nat.le_of_ble_eq_true rfl) dX4_move_8 ⟨(Nat.le_of_ble_eq_true rfl), (Nat.le_of_ble_eq_true rfl)⟩ (fun r w_5 H locs hp_4 hI hS => ?_)
    obtain ⟨rfl, ⟨ho_6, rfl⟩ | ⟨ho_6, rfl⟩⟩ := hp_4
    · refine W.eq (g2 := F0 m 11 ls [.int 1]) rfl ?_
      refine lv_if_ne (tgt := 17) hx hb dX4_move_11 (by decide) (fun _ => ?_) (fun c => absurd c (by decide))
      obtain ⟨xj, hxj, rfl⟩ := isP_nat ho_3
      obtain ⟨yj, hyj, rfl⟩ := isP_nat ho_6
      refine lv_aload_n hx hb dX4_move_17 rfl (lv_at hl 0 rfl) ?_
      refine lv_iload_n hx hb dX4_move_18 rfl (lv_at hl 1 rfl) ?_
      refine lv_iload_n hx hb dX4_move_19 rfl (lv_at hl 3 rfl) ?_
      refine ca_V (As := [.int (nI xj), .int (nI yj)]) (rest := []) (r0 := (RX4, TX4, 11)) (ci := 3) ⟨hx, hb, hml, hown, hts⟩ (cc_X4_unlike l E A _ (i9 := xj) (j9 := yj) (by omega) (by omega) hW hR) (cwV 2 hts gX4_move_X4_unlike rfl rfl rfl (by decide +kernel) ⟨(Nat.le_of_ble_eq_true rfl), (Nat.le_of_ble_eq_true rfl)⟩) hT hI hA hS rfl hR.1 rfl rfl hl.1 (Nat.le_of_ble_eq_true rfl) dX4_move_20 ⟨(Nat.le_of_ble_eq_true rfl), (Nat.le_of_ble_eq_true rfl)⟩ (fun r w_8 H locs hp_7 hI hS => ?_)
      obtain ⟨rfl, ⟨hul, rfl⟩ | ⟨hul, hm, rfl⟩ | ⟨hul, hm, rfl⟩⟩ := hp_7
      · refine W.eq (g2 := F0 m 23 ls [.int 1]) rfl ?_
        refine lv_istore (lv' := [(6, .int 1), (0, .ref (mH M)), (1, .int (nI xj)), (2, .int i), (3, .int (nI yj)), (4, .int j), (5, .int n)]) hx hb dX4_move_23 hl (by decide) rfl (fun ls hl => ?_)
        refine lv_iload hx hb dX4_move_25 (lv_at hl 0 rfl) ?_
        refine lv_if_ne (tgt := 80) hx hb dX4_move_27 (by decide) (fun _ => ?_) (fun c => absurd c (by decide))
        refine lv_iload hx hb dX4_move_80 (lv_at hl 0 rfl) ?_
        refine lv_if_eq (tgt := 92) hx hb dX4_move_82 (by decide) (fun c => absurd c (by decide)) (fun _ => ?_)
        refine lv_aload_n hx hb dX4_move_85 rfl (lv_at hl 1 rfl) ?_
        refine lv_iload hx hb dX4_move_86 (lv_at hl 0 rfl) ?_
        refine ca_V (As := [.int 1]) (rest := []) (r0 := (RX4, TX4, 11)) (ci := 3) ⟨hx, hb, hml, hown, hts⟩ (cc_X4_no l E A _ 1 hR) (cwV 1 hts gX4_move_X4_no rfl rfl rfl (by decide +kernel) ⟨(Nat.le_of_ble_eq_true rfl), (Nat.le_of_ble_eq_true rfl)⟩) hT hI hA hS rfl hR.1 rfl rfl hl.1 (Nat.le_of_ble_eq_true rfl) dX4_move_88 ⟨(Nat.le_of_ble_eq_true rfl), (Nat.le_of_ble_eq_true rfl)⟩ (fun r w_10 H locs hp_9 hI hS => ?_)
        obtain ⟨rfl, hR⟩ := hp_9
        refine W.eq (g2 := F0 m 91 ls [.int 0]) rfl ?_
        exact re_i hx hb hr hlocks hT hA hS hI (PoM.of (by
                    unfold sp_move
                    try simp only [pv_nI hxj, pv_nI hyj]
                    rw [if_neg ((fun q => q.elim ho_3 ho_6)), if_pos (hul)]) hR) (Nat.le_of_ble_eq_true rfl) (Nat.le_of_ble_eq_true rfl) dX4_move_91
      · refine W.eq (g2 := F0 m 23 ls [.int 2]) rfl ?_
        refine lv_istore (lv' := [(6, .int 2), (0, .ref (mH M)), (1, .int (nI xj)), (2, .int i), (3, .int (nI yj)), (4, .int j), (5, .int n)]) hx hb dX4_move_23 hl (by decide) rfl (fun ls hl => ?_)
        refine lv_iload hx hb dX4_move_25 (lv_at hl 0 rfl) ?_
        refine lv_if_ne (tgt := 80) hx hb dX4_move_27 (by decide) (fun _ => ?_) (fun c => absurd c (by decide))
        refine lv_iload hx hb dX4_move_80 (lv_at hl 0 rfl) ?_
        refine lv_if_eq (tgt := 92) hx hb dX4_move_82 (by decide) (fun c => absurd c (by decide)) (fun _ => ?_)
        refine lv_aload_n hx hb dX4_move_85 rfl (lv_at hl 1 rfl) ?_
        refine lv_iload hx hb dX4_move_86 (lv_at hl 0 rfl) ?_
        refine ca_V (As := [.int 2]) (rest := []) (r0 := (RX4, TX4, 11)) (ci := 3) ⟨hx, hb, hml, hown, hts⟩ (cc_X4_no l E A _ 2 hR) (cwV 1 hts gX4_move_X4_no rfl rfl rfl (by decide +kernel) ⟨(Nat.le_of_ble_eq_true rfl), (Nat.le_of_ble_eq_true rfl)⟩) hT hI hA hS rfl hR.1 rfl rfl hl.1 (Nat.le_of_ble_eq_true rfl) dX4_move_88 ⟨(Nat.le_of_ble_eq_true rfl), (Nat.le_of_ble_eq_true rfl)⟩ (fun r w_12 H locs hp_11 hI hS => ?_)
        obtain ⟨rfl, hR⟩ := hp_11
        refine W.eq (g2 := F0 m 91 ls [.int 0]) rfl ?_
        exact re_i hx hb hr hlocks hT hA hS hI (PoM.of (by
                    unfold sp_move
                    try simp only [pv_nI hxj, pv_nI hyj]
                    rw [if_neg ((fun q => q.elim ho_3 ho_6)), if_neg (hul), if_pos (hm)]) hR) (Nat.le_of_ble_eq_true rfl) (Nat.le_of_ble_eq_true rfl) dX4_move_91
      · have hm0 := hm
        have hru : vR S (sPl S xj) := vO_row ((hW.1 xj).resolve_left (fun e9 => hul (Or.inl e9))) (fun e9 => hm.1 (Or.inr e9))
        have hrv : vR S (sPl S yj) := vO_row ((hW.1 yj).resolve_left (fun e9 => hul (Or.inr e9))) (fun e9 => hm.1 (Or.inl e9))
        have hlu := hW.ln (Or.inl hru)
        have hlv := hW.ln (Or.inl hrv)
        refine W.eq (g2 := F0 m 23 ls [.int 0]) rfl ?_
        refine lv_istore (lv' := [(6, .int 0), (0, .ref (mH M)), (1, .int (nI xj)), (2, .int i), (3, .int (nI yj)), (4, .int j), (5, .int n)]) hx hb dX4_move_23 hl (by decide) rfl (fun ls hl => ?_)
        refine lv_iload hx hb dX4_move_25 (lv_at hl 0 rfl) ?_
        refine lv_if_ne (tgt := 80) hx hb dX4_move_27 (by decide) (fun c => absurd c (by decide)) (fun _ => ?_)
        refine lv_iload_n hx hb dX4_move_30 rfl (lv_at hl 3 rfl) ?_
        refine lv_if_lt (tgt := 77) hx hb dX4_move_31 (by decide) (fun c_13 => ?_) (fun c_13 => ?_)
        · have hg9 : ¬ rg (lnv S (sPl S xj)) i n := fun q9 => rg_i q9 c_13
          refine lv_iconst (v := 3) hx hb dX4_move_77 (by decide) ?_
          refine lv_istore (lv' := [(6, .int 3), (0, .ref (mH M)), (1, .int (nI xj)), (2, .int i), (3, .int (nI yj)), (4, .int j), (5, .int n)]) hx hb dX4_move_78 hl (by decide) rfl (fun ls hl => ?_)
          refine lv_iload hx hb dX4_move_80 (lv_at hl 0 rfl) ?_
          refine lv_if_eq (tgt := 92) hx hb dX4_move_82 (by decide) (fun c => absurd c (by decide)) (fun _ => ?_)
          refine lv_aload_n hx hb dX4_move_85 rfl (lv_at hl 1 rfl) ?_
          refine lv_iload hx hb dX4_move_86 (lv_at hl 0 rfl) ?_
          refine ca_V (As := [.int 3]) (rest := []) (r0 := (RX4, TX4, 11)) (ci := 3) ⟨hx, hb, hml, hown, hts⟩ (cc_X4_no l E A _ 3 hR) (cwV 1 hts gX4_move_X4_no rfl rfl rfl (by decide +kernel) ⟨(Nat.le_of_ble_eq_true rfl), (Nat.le_of_ble_eq_true rfl)⟩) hT hI hA hS rfl hR.1 rfl rfl hl.1 (Nat.le_of_ble_eq_true rfl) dX4_move_88 ⟨(Nat.le_of_ble_eq_true rfl), (Nat.le_of_ble_eq_true rfl)⟩ (fun r w_15 H locs hp_14 hI hS => ?_)
          obtain ⟨rfl, hR⟩ := hp_14
          refine W.eq (g2 := F0 m 91 ls [.int 0]) rfl ?_
          exact re_i hx hb hr hlocks hT hA hS hI (PoM.of (by
                        unfold sp_move
                        try simp only [pv_nI hxj, pv_nI hyj]
                        rw [if_neg ((fun q => q.elim ho_3 ho_6)), if_neg (hul), if_neg (not_not_intro hm0), if_pos (Or.inl hg9)]) hR) (Nat.le_of_ble_eq_true rfl) (Nat.le_of_ble_eq_true rfl) dX4_move_91
        · refine lv_iload hx hb dX4_move_34 (lv_at hl 5 rfl) ?_
          refine lv_if_lt (tgt := 77) hx hb dX4_move_36 (by decide) (fun c_16 => ?_) (fun c_16 => ?_)
          · have hg9 : ¬ rg (lnv S (sPl S yj)) j n := fun q9 => rg_i q9 c_16
            refine lv_iconst (v := 3) hx hb dX4_move_77 (by decide) ?_
            refine lv_istore (lv' := [(6, .int 3), (0, .ref (mH M)), (1, .int (nI xj)), (2, .int i), (3, .int (nI yj)), (4, .int j), (5, .int n)]) hx hb dX4_move_78 hl (by decide) rfl (fun ls hl => ?_)
            refine lv_iload hx hb dX4_move_80 (lv_at hl 0 rfl) ?_
            refine lv_if_eq (tgt := 92) hx hb dX4_move_82 (by decide) (fun c => absurd c (by decide)) (fun _ => ?_)
            refine lv_aload_n hx hb dX4_move_85 rfl (lv_at hl 1 rfl) ?_
            refine lv_iload hx hb dX4_move_86 (lv_at hl 0 rfl) ?_
            refine ca_V (As := [.int 3]) (rest := []) (r0 := (RX4, TX4, 11)) (ci := 3) ⟨hx, hb, hml, hown, hts⟩ (cc_X4_no l E A _ 3 hR) (cwV 1 hts gX4_move_X4_no rfl rfl rfl (by decide +kernel) ⟨(Nat.le_of_ble_eq_true rfl), (Nat.le_of_ble_eq_true rfl)⟩) hT hI hA hS rfl hR.1 rfl rfl hl.1 (Nat.le_of_ble_eq_true rfl) dX4_move_88 ⟨(Nat.le_of_ble_eq_true rfl), (Nat.le_of_ble_eq_true rfl)⟩ (fun r w_18 H locs hp_17 hI hS => ?_)
            obtain ⟨rfl, hR⟩ := hp_17
            refine W.eq (g2 := F0 m 91 ls [.int 0]) rfl ?_
            exact re_i hx hb hr hlocks hT hA hS hI (PoM.of (by
                            unfold sp_move
                            try simp only [pv_nI hxj, pv_nI hyj]
                            rw [if_neg ((fun q => q.elim ho_3 ho_6)), if_neg (hul), if_neg (not_not_intro hm0), if_pos (Or.inr hg9)]) hR) (Nat.le_of_ble_eq_true rfl) (Nat.le_of_ble_eq_true rfl) dX4_move_91
          · refine lv_iload hx hb dX4_move_39 (lv_at hl 6 rfl) ?_
            refine lv_if_lt (tgt := 77) hx hb dX4_move_41 (by decide) (fun c_19 => ?_) (fun c_19 => ?_)
            · have hg9 : ¬ rg (lnv S (sPl S xj)) i n := fun q9 => rg_k q9 c_19
              refine lv_iconst (v := 3) hx hb dX4_move_77 (by decide) ?_
              refine lv_istore (lv' := [(6, .int 3), (0, .ref (mH M)), (1, .int (nI xj)), (2, .int i), (3, .int (nI yj)), (4, .int j), (5, .int n)]) hx hb dX4_move_78 hl (by decide) rfl (fun ls hl => ?_)
              refine lv_iload hx hb dX4_move_80 (lv_at hl 0 rfl) ?_
              refine lv_if_eq (tgt := 92) hx hb dX4_move_82 (by decide) (fun c => absurd c (by decide)) (fun _ => ?_)
              refine lv_aload_n hx hb dX4_move_85 rfl (lv_at hl 1 rfl) ?_
              refine lv_iload hx hb dX4_move_86 (lv_at hl 0 rfl) ?_
              refine ca_V (As := [.int 3]) (rest := []) (r0 := (RX4, TX4, 11)) (ci := 3) ⟨hx, hb, hml, hown, hts⟩ (cc_X4_no l E A _ 3 hR) (cwV 1 hts gX4_move_X4_no rfl rfl rfl (by decide +kernel) ⟨(Nat.le_of_ble_eq_true rfl), (Nat.le_of_ble_eq_true rfl)⟩) hT hI hA hS rfl hR.1 rfl rfl hl.1 (Nat.le_of_ble_eq_true rfl) dX4_move_88 ⟨(Nat.le_of_ble_eq_true rfl), (Nat.le_of_ble_eq_true rfl)⟩ (fun r w_21 H locs hp_20 hI hS => ?_)
              obtain ⟨rfl, hR⟩ := hp_20
              refine W.eq (g2 := F0 m 91 ls [.int 0]) rfl ?_
              exact re_i hx hb hr hlocks hT hA hS hI (PoM.of (by
                                unfold sp_move
                                try simp only [pv_nI hxj, pv_nI hyj]
                                rw [if_neg ((fun q => q.elim ho_3 ho_6)), if_neg (hul), if_neg (not_not_intro hm0), if_pos (Or.inl hg9)]) hR) (Nat.le_of_ble_eq_true rfl) (Nat.le_of_ble_eq_true rfl) dX4_move_91
            · refine lv_iload_n hx hb dX4_move_44 rfl (lv_at hl 3 rfl) ?_
              refine lv_i2l (v := i.toInt64) hx hb dX4_move_45 rfl ?_
              refine lv_iload hx hb dX4_move_46 (lv_at hl 6 rfl) ?_
              refine lv_i2l (v := n.toInt64) hx hb dX4_move_48 rfl ?_
              refine lv_ladd hx hb dX4_move_49 ?_
              refine lv_aload_n hx hb dX4_move_50 rfl (lv_at hl 1 rfl) ?_
              refine lv_iload_n hx hb dX4_move_51 rfl (lv_at hl 2 rfl) ?_
              refine ca_V (As := [.int (nI xj)]) (rest := [.long (i.toInt64 + n.toInt64)]) (r0 := (RX4, TX4, 11)) (ci := 3) ⟨hx, hb, hml, hown, hts⟩ (cc_X4_lengthOf l E A _ (by omega) hW hR hru) (cwV 1 hts gX4_move_X4_lengthOf rfl rfl rfl (by decide +kernel) ⟨(Nat.le_of_ble_eq_true rfl), (Nat.le_of_ble_eq_true rfl)⟩) hT hI hA hS rfl hR.1 rfl rfl hl.1 (Nat.le_of_ble_eq_true rfl) dX4_move_52 ⟨(Nat.le_of_ble_eq_true rfl), (Nat.le_of_ble_eq_true rfl)⟩ (fun r w_23 H locs hp_22 hI hS => ?_)
              obtain ⟨rfl, rfl⟩ := hp_22
              refine W.eq (g2 := F0 m 55 ls [.int (nI (lnv S (sPl S xj))), .long (i.toInt64 + n.toInt64)]) rfl ?_
              refine lv_i2l (v := (nI (lnv S (sPl S xj))).toInt64) hx hb dX4_move_55 rfl ?_
              refine W.lcmp hx hb dX4_move_56 ?_
              refine lv_if_gt (tgt := 77) hx hb dX4_move_57 (by decide) (fun c_24 => ?_) (fun c_24 => ?_)
              · have hg9 : ¬ rg (lnv S (sPl S xj)) i n := fun q9 => Int32.not_le.mpr c_24 ((rg64 hlu c_13 c_19).mpr q9)
                refine lv_iconst (v := 3) hx hb dX4_move_77 (by decide) ?_
                refine lv_istore (lv' := [(6, .int 3), (0, .ref (mH M)), (1, .int (nI xj)), (2, .int i), (3, .int (nI yj)), (4, .int j), (5, .int n)]) hx hb dX4_move_78 hl (by decide) rfl (fun ls hl => ?_)
                refine lv_iload hx hb dX4_move_80 (lv_at hl 0 rfl) ?_
                refine lv_if_eq (tgt := 92) hx hb dX4_move_82 (by decide) (fun c => absurd c (by decide)) (fun _ => ?_)
                refine lv_aload_n hx hb dX4_move_85 rfl (lv_at hl 1 rfl) ?_
                refine lv_iload hx hb dX4_move_86 (lv_at hl 0 rfl) ?_
                refine ca_V (As := [.int 3]) (rest := []) (r0 := (RX4, TX4, 11)) (ci := 3) ⟨hx, hb, hml, hown, hts⟩ (cc_X4_no l E A _ 3 hR) (cwV 1 hts gX4_move_X4_no rfl rfl rfl (by decide +kernel) ⟨(Nat.le_of_ble_eq_true rfl), (Nat.le_of_ble_eq_true rfl)⟩) hT hI hA hS rfl hR.1 rfl rfl hl.1 (Nat.le_of_ble_eq_true rfl) dX4_move_88 ⟨(Nat.le_of_ble_eq_true rfl), (Nat.le_of_ble_eq_true rfl)⟩ (fun r w_26 H locs hp_25 hI hS => ?_)
                obtain ⟨rfl, hR⟩ := hp_25
                refine W.eq (g2 := F0 m 91 ls [.int 0]) rfl ?_
                exact re_i hx hb hr hlocks hT hA hS hI (PoM.of (by
                                    unfold sp_move
                                    try simp only [pv_nI hxj, pv_nI hyj]
                                    rw [if_neg ((fun q => q.elim ho_3 ho_6)), if_neg (hul), if_neg (not_not_intro hm0), if_pos (Or.inl hg9)]) hR) (Nat.le_of_ble_eq_true rfl) (Nat.le_of_ble_eq_true rfl) dX4_move_91
              · have hg1 : rg (lnv S (sPl S xj)) i n := (rg64 hlu c_13 c_19).mp (Int32.not_lt.mp c_24)
                refine lv_iload hx hb dX4_move_60 (lv_at hl 5 rfl) ?_
                refine lv_i2l (v := j.toInt64) hx hb dX4_move_62 rfl ?_
                refine lv_iload hx hb dX4_move_63 (lv_at hl 6 rfl) ?_
                refine lv_i2l (v := n.toInt64) hx hb dX4_move_65 rfl ?_
                refine lv_ladd hx hb dX4_move_66 ?_
                refine lv_aload_n hx hb dX4_move_67 rfl (lv_at hl 1 rfl) ?_
                refine lv_iload_n hx hb dX4_move_68 rfl (lv_at hl 4 rfl) ?_
                refine ca_V (As := [.int (nI yj)]) (rest := [.long (j.toInt64 + n.toInt64)]) (r0 := (RX4, TX4, 11)) (ci := 3) ⟨hx, hb, hml, hown, hts⟩ (cc_X4_lengthOf l E A _ (by omega) hW hR hrv) (cwV 1 hts gX4_move_X4_lengthOf rfl rfl rfl (by decide +kernel) ⟨(Nat.le_of_ble_eq_true rfl), (Nat.le_of_ble_eq_true rfl)⟩) hT hI hA hS rfl hR.1 rfl rfl hl.1 (Nat.le_of_ble_eq_true rfl) dX4_move_69 ⟨(Nat.le_of_ble_eq_true rfl), (Nat.le_of_ble_eq_true rfl)⟩ (fun r w_28 H locs hp_27 hI hS => ?_)
                obtain ⟨rfl, rfl⟩ := hp_27
                refine W.eq (g2 := F0 m 72 ls [.int (nI (lnv S (sPl S yj))), .long (j.toInt64 + n.toInt64)]) rfl ?_
                refine lv_i2l (v := (nI (lnv S (sPl S yj))).toInt64) hx hb dX4_move_72 rfl ?_
                refine W.lcmp hx hb dX4_move_73 ?_
                refine lv_if_le (tgt := 80) hx hb dX4_move_74 (by decide) (fun c_29 => ?_) (fun c_29 => ?_)
                · refine lv_iload hx hb dX4_move_80 (lv_at hl 0 rfl) ?_
                  refine lv_if_eq (tgt := 92) hx hb dX4_move_82 (by decide) (fun _ => ?_) (fun c => absurd c (by decide))
                  have hg2 : rg (lnv S (sPl S yj)) j n := (rg64 hlv c_16 c_19).mp c_29
                  obtain ⟨ia, nb, hin1, rfl, rfl⟩ := rg_nat hlu hg1
                  obtain ⟨ja, nc, hin2, rfl, he2⟩ := rg_nat hlv hg2
                  obtain rfl : nb = nc := nI_inj (by omega) (by omega) he2
                  refine lv_aload_n hx hb dX4_move_92 rfl (lv_at hl 1 rfl) ?_
                  refine wr_get (ci := 3) (C := RX4) (T := TX4) (N := 11) (v := .ref (mP M)) hx hb hts in_X4 hown hT hI hR.1 rfl 1 (by decide) (hts (.fieldLink RX4 7 "CopyRowsModel" "places" "[I") (by decide +kernel)) rfl dX4_move_93 ?_
                  refine lv_iload_n hx hb dX4_move_96 rfl (lv_at hl 2 rfl) ?_
                  refine wr_ialdN (t := xj) (n := 12) (f := plF S) hx hb hT hI hR.2.1 (by omega) (by omega) dX4_move_97 ?_
                  refine W.eq (g2 := F0 m 98 ls [.int (sPl S xj)]) (by rw [plF_at (by omega)]) ?_
                  refine lv_istore (lv' := [(7, .int (sPl S xj)), (6, .int 0), (0, .ref (mH M)), (1, .int (nI xj)), (2, .int (nI ia)), (3, .int (nI yj)), (4, .int (nI ja)), (5, .int (nI nb))]) hx hb dX4_move_98 hl (by decide) rfl (fun ls hl => ?_)
                  refine lv_aload_n hx hb dX4_move_100 rfl (lv_at hl 2 rfl) ?_
                  refine wr_get (ci := 3) (C := RX4) (T := TX4) (N := 11) (v := .ref (mP M)) hx hb hts in_X4 hown hT hI hR.1 rfl 1 (by decide) (hts (.fieldLink RX4 7 "CopyRowsModel" "places" "[I") (by decide +kernel)) rfl dX4_move_101 ?_
                  refine lv_iload_n hx hb dX4_move_104 rfl (lv_at hl 5 rfl) ?_
                  refine wr_ialdN (t := yj) (n := 12) (f := plF S) hx hb hT hI hR.2.1 (by omega) (by omega) dX4_move_105 ?_
                  refine W.eq (g2 := F0 m 106 ls [.int (sPl S yj)]) (by rw [plF_at (by omega)]) ?_
                  refine lv_istore (lv' := [(8, .int (sPl S yj)), (7, .int (sPl S xj)), (6, .int 0), (0, .ref (mH M)), (1, .int (nI xj)), (2, .int (nI ia)), (3, .int (nI yj)), (4, .int (nI ja)), (5, .int (nI nb))]) hx hb dX4_move_106 hl (by decide) rfl (fun ls hl => ?_)
                  refine lv_iconst (v := 0) hx hb dX4_move_108 (by decide) ?_
                  refine lv_istore (lv' := [(9, .int 0), (8, .int (sPl S yj)), (7, .int (sPl S xj)), (6, .int 0), (0, .ref (mH M)), (1, .int (nI xj)), (2, .int (nI ia)), (3, .int (nI yj)), (4, .int (nI ja)), (5, .int (nI nb))]) hx hb dX4_move_109 hl (by decide) rfl (fun ls hl => ?_)
                  refine lp_w (ι := Nat × (Nat → Int32)) (fun q9 => nb - q9.1) (fun q9 H locs ls => (q9.1 ≤ nb ∧ ∀ k, k < q9.1 → q9.2 k = itv S (sPl S xj) (ia + k)) ∧ (∃ w9, Hv E A w9 H ∧ Rm E S M q9.2 w9) ∧ va_S A s.heap H locs ∧ lv_has ls 10 [(0, .ref (mH M)), (2, .int (nI ia)), (4, .int (nI ja)), (5, .int (nI nb)), (7, .int (sPl S xj)), (8, .int (sPl S yj)), (9, .int (nI q9.1))]) ?_ (0, tt) _ _ _ ⟨⟨Nat.zero_le _, fun k h9 => absurd h9 (Nat.not_lt_zero _)⟩, ⟨_, hI, hR⟩, hS, lv_sub hl [4, 6, 8, 9, 2, 1, 0] rfl⟩
                  rintro ⟨t, tt⟩ H locs ls ⟨⟨ht, hall⟩, ⟨w9, hI, hR⟩, hS, hl⟩ ih
                  dsimp only at ht hall hR hl
                  refine lv_iload hx hb dX4_move_111 (lv_at hl 6 rfl) ?_
                  refine lv_iload hx hb dX4_move_113 (lv_at hl 3 rfl) ?_
                  refine lv_icmp_ge (tgt := 141) hx hb dX4_move_115 (by decide) (fun c_30 => ?_) (fun c_30 => ?_)
                  · have c_30 : nb ≤ t := (nI_leI (a := nb) (b := t) (by omega) (by omega)).mp c_30
                    refine lv_iconst (v := 0) hx hb dX4_move_141 (by decide) ?_
                    refine lv_istore (lv' := [(9, .int 0), (0, .ref (mH M)), (2, .int (nI ia)), (4, .int (nI ja)), (5, .int (nI nb)), (7, .int (sPl S xj)), (8, .int (sPl S yj))]) hx hb dX4_move_142 hl (by decide) rfl (fun ls hl => ?_)
                    have hall : ∀ k, k < nb → tt k = itv S (sPl S xj) (ia + k) := fun k h9 => hall k (by omega)
                    have hWs := hW
                    have hrus := hru
                    have hrvs := hrv
                    have hR : Rm E (uRow S (ix (sPl S yj)) (va_cpy (itv S (sPl S xj)) (itv S (sPl S yj)) ia ja 0)) M tt w9 := by rw [cpy_zero, uRow_id hrv]; exact hR
                    refine lp_w (ι := Nat × Sx) (fun q9 => nb - q9.1) (fun q9 H locs ls => (q9.1 ≤ nb ∧ q9.2 = uRow S (ix (sPl S yj)) (va_cpy (itv S (sPl S xj)) (itv S (sPl S yj)) ia ja q9.1) ∧ ∀ k, k < q9.1 → isN (kdv S (sPl S yj)) ∨ fitS S (kdv S (sPl S xj)) (itv S (sPl S xj) (ia + k)) (kdv S (sPl S yj))) ∧ (∃ w9, Hv E A w9 H ∧ Rm E q9.2 M tt w9) ∧ va_S A s.heap H locs ∧ lv_has ls 10 [(0, .ref (mH M)), (4, .int (nI ja)), (5, .int (nI nb)), (7, .int (sPl S xj)), (8, .int (sPl S yj)), (9, .int (nI q9.1))]) ?_ (0, uRow S (ix (sPl S yj)) (va_cpy (itv S (sPl S xj)) (itv S (sPl S yj)) ia ja 0)) _ _ _ ⟨⟨Nat.zero_le _, rfl, fun k h9 => absurd h9 (Nat.not_lt_zero _)⟩, ⟨_, hI, hR⟩, hS, lv_sub hl [1, 3, 4, 5, 6, 0] rfl⟩
                    clear ih
                    rintro ⟨t, T9⟩ H locs ls ⟨⟨ht, hT9, hfa⟩, ⟨w9, hI, hR⟩, hS, hl⟩ ih
                    dsimp only at ht hT9 hfa hR hl
                    have hW : Wf T9 := by rw [hT9]; exact hWs.got hrus hrvs hm (cpy_got hfa)
                    have hru : vR T9 (sPl S xj) := by rw [hT9]; exact hrus
                    have hrv : vR T9 (sPl S yj) := by rw [hT9]; exact hrvs
                    refine lv_iload hx hb dX4_move_144 (lv_at hl 5 rfl) ?_
                    refine lv_iload hx hb dX4_move_146 (lv_at hl 2 rfl) ?_
                    refine lv_icmp_ge (tgt := 222) hx hb dX4_move_148 (by decide) (fun c_31 => ?_) (fun c_31 => ?_)
                    · have c_31 : nb ≤ t := (nI_leI (a := nb) (b := t) (by omega) (by omega)).mp c_31
                      refine lv_aload_n hx hb dX4_move_222 rfl (lv_at hl 0 rfl) ?_
                      refine lv_iload hx hb dX4_move_223 (lv_at hl 2 rfl) ?_
                      refine ca_V (As := [.int (nI nb)]) (rest := []) (r0 := (RX4, TX4, 11)) (ci := 3) ⟨hx, hb, hml, hown, hts⟩ (cc_X4_yes l E A _ (nI nb) hR) (cwV 1 hts gX4_move_X4_yes rfl rfl rfl (by decide +kernel) ⟨(Nat.le_of_ble_eq_true rfl), (Nat.le_of_ble_eq_true rfl)⟩) hT hI hA hS rfl hR.1 rfl rfl hl.1 (Nat.le_of_ble_eq_true rfl) dX4_move_225 ⟨(Nat.le_of_ble_eq_true rfl), (Nat.le_of_ble_eq_true rfl)⟩ (fun r w_33 H locs hp_32 hI hS => ?_)
                      obtain ⟨rfl, hR⟩ := hp_32
                      refine W.eq (g2 := F0 m 228 ls [.int (nI nb)]) rfl ?_
                      exact re_i hx hb hr hlocks hT hA hS hI (PoM.of (by
                                                unfold sp_move
                                                try simp only [pv_nI hxj, pv_nI hyj, ix_nI (show ia < 2 ^ 31 by omega), ix_nI (show nb < 2 ^ 31 by omega), ix_nI (show ja < 2 ^ 31 by omega)]
                                                rw [if_neg ((fun q => q.elim ho_3 ho_6)), if_neg (hul), if_neg (not_not_intro hm0), if_neg (fun q9 => q9.elim (not_not_intro hg1) (not_not_intro hg2))]
                                                rw [mvN_all (fun k h9 => hfa k (by omega)), if_neg (Nat.lt_irrefl _), show nb = t by omega, hT9]) hR) (Nat.le_of_ble_eq_true rfl) (Nat.le_of_ble_eq_true rfl) dX4_move_228
                    · have c_31 : ¬ nb ≤ t := fun q => c_31 ((nI_leI (a := nb) (b := t) (by omega) (by omega)).mpr q)
                      refine lv_aload_n hx hb dX4_move_151 rfl (lv_at hl 0 rfl) ?_
                      refine wr_get (ci := 3) (C := RX4) (T := TX4) (N := 11) (v := .ref (mK M)) hx hb hts in_X4 hown hT hI hR.1 rfl 3 (by decide) (hts (.fieldLink RX4 13 "CopyRowsModel" "kinds" "[I") (by decide +kernel)) rfl dX4_move_152 ?_
                      refine lv_iload hx hb dX4_move_155 (lv_at hl 3 rfl) ?_
                      refine W.eq (g2 := F0 m 157 ls [.int (nI (ix (sPl S xj))), .ref (mK M)]) (by rw [nI_ix hru.1]) ?_
                      refine wr_ialdN (t := ix (sPl S xj)) (n := 520) (f := sKd T9) hx hb hT hI hR.2.2.1 (by have h9 := hru.2; have h8 := hW.2.2.2; omega) (by omega) dX4_move_157 ?_
                      refine W.eq (g2 := F0 m 158 ls [.int (kdv T9 (sPl S xj))]) (by rw [kdv_r hru]) ?_
                      refine lv_iconst (v := 2) hx hb dX4_move_158 (by decide) ?_
                      refine lv_icmp_lt (tgt := 198) hx hb dX4_move_159 (by decide) (fun c_34 => ?_) (fun c_34 => ?_)
                      · have hok : isN (kdv S (sPl S yj)) ∨ fitS S (kdv S (sPl S xj)) (itv S (sPl S xj) (ia + t)) (kdv S (sPl S yj)) := Or.inl (may_of hWs hrus hm (by rw [hT9] at c_34; exact c_34))
                        refine lv_aload_n hx hb dX4_move_198 rfl (lv_at hl 0 rfl) ?_
                        refine lv_iload hx hb dX4_move_199 (lv_at hl 4 rfl) ?_
                        refine lv_iload hx hb dX4_move_201 (lv_at hl 1 rfl) ?_
                        refine lv_iload hx hb dX4_move_203 (lv_at hl 5 rfl) ?_
                        refine lv_iadd hx hb dX4_move_205 ?_
                        refine W.eq (g2 := F0 m 206 ls [.int (nI (ja + t)), .int (sPl S yj), .ref (mH M)]) (by rw [show (nI ja : Int32) + nI t = nI (ja + t) from nI_add ja t]) ?_
                        refine lv_aload_n hx hb dX4_move_206 rfl (lv_at hl 0 rfl) ?_
                        refine wr_get (ci := 3) (C := RX4) (T := TX4) (N := 11) (v := .ref (mT M)) hx hb hts in_X4 hown hT hI hR.1 rfl 10 (by decide) (hts (.fieldLink RX4 28 "CopyRowsModel" "third" "[I") (by decide +kernel)) rfl dX4_move_207 ?_
                        refine lv_iload hx hb dX4_move_210 (lv_at hl 5 rfl) ?_
                        refine wr_ialdN (t := t) (n := 40) (f := tt) hx hb hT hI hR.2.2.2.2.2.2.2.1 (by omega) (by omega) dX4_move_212 ?_
                        refine ca_V (As := [.int (sPl S yj), .int (nI (ja + t)), .int (tt t)]) (rest := []) (r0 := (RX4, TX4, 11)) (ci := 3) ⟨hx, hb, hml, hown, hts⟩ (cM_put l E A _ (S := T9) (tt t) hrv (by have := hW.2.2.2; omega) (by omega) hR) (cwV 3 hts gX4_move_X4_put rfl rfl rfl (by decide +kernel) ⟨(Nat.le_of_ble_eq_true rfl), (Nat.le_of_ble_eq_true rfl)⟩) hT hI hA hS rfl hR.1 rfl rfl hl.1 (Nat.le_of_ble_eq_true rfl) dX4_move_213 ⟨(Nat.le_of_ble_eq_true rfl), (Nat.le_of_ble_eq_true rfl)⟩ (fun r w_36 H locs hp_35 hI hS => ?_)
                        obtain ⟨rfl, hR⟩ := hp_35
                        refine W.eq (g2 := F0 m 216 ls []) rfl ?_
                        refine lv_iinc (v := nI (t + 1)) (lv' := [(9, .int (nI (t + 1))), (0, .ref (mH M)), (4, .int (nI ja)), (5, .int (nI nb)), (7, .int (sPl S xj)), (8, .int (sPl S yj))]) hx hb dX4_move_216 hl (k := 5) rfl (nI_1 _) (by decide) rfl (fun ls hl => ?_)
                        refine lv_goto (tgt := 144) hx hb dX4_move_219 (by decide) ?_
                        have e9 : uRow T9 (ix (sPl S yj)) (upd (itv T9 (sPl S yj)) (ja + t) (tt t)) = uRow S (ix (sPl S yj)) (va_cpy (itv S (sPl S xj)) (itv S (sPl S yj)) ia ja (t + 1)) := by rw [hall t (by omega), hT9, row_step hrvs, cpy_step]
                        rw [e9] at hR
                        exact ih (t + 1, uRow S (ix (sPl S yj)) (va_cpy (itv S (sPl S xj)) (itv S (sPl S yj)) ia ja (t + 1))) _ _ _ ⟨⟨by show t + 1 ≤ nb; omega, rfl, fits_lt (k := 0) hfa hok⟩, ⟨_, hI, hR⟩, hS, lv_sub hl [1, 2, 3, 4, 5, 0] rfl⟩ (by show nb - (t + 1) < nb - t; omega)
                      · refine lv_aload_n hx hb dX4_move_162 rfl (lv_at hl 0 rfl) ?_
                        refine lv_aload_n hx hb dX4_move_163 rfl (lv_at hl 0 rfl) ?_
                        refine wr_get (ci := 3) (C := RX4) (T := TX4) (N := 11) (v := .ref (mK M)) hx hb hts in_X4 hown hT hI hR.1 rfl 3 (by decide) (hts (.fieldLink RX4 13 "CopyRowsModel" "kinds" "[I") (by decide +kernel)) rfl dX4_move_164 ?_
                        refine lv_iload hx hb dX4_move_167 (lv_at hl 3 rfl) ?_
                        refine W.eq (g2 := F0 m 169 ls [.int (nI (ix (sPl S xj))), .ref (mK M), .ref (mH M)]) (by rw [nI_ix hru.1]) ?_
                        refine wr_ialdN (t := ix (sPl S xj)) (n := 520) (f := sKd T9) hx hb hT hI hR.2.2.1 (by have h9 := hru.2; have h8 := hW.2.2.2; omega) (by omega) dX4_move_169 ?_
                        refine W.eq (g2 := F0 m 170 ls [.int (kdv T9 (sPl S xj)), .ref (mH M)]) (by rw [kdv_r hru]) ?_
                        refine lv_aload_n hx hb dX4_move_170 rfl (lv_at hl 0 rfl) ?_
                        refine wr_get (ci := 3) (C := RX4) (T := TX4) (N := 11) (v := .ref (mT M)) hx hb hts in_X4 hown hT hI hR.1 rfl 10 (by decide) (hts (.fieldLink RX4 28 "CopyRowsModel" "third" "[I") (by decide +kernel)) rfl dX4_move_171 ?_
                        refine lv_iload hx hb dX4_move_174 (lv_at hl 5 rfl) ?_
                        refine wr_ialdN (t := t) (n := 40) (f := tt) hx hb hT hI hR.2.2.2.2.2.2.2.1 (by omega) (by omega) dX4_move_176 ?_
                        refine lv_aload_n hx hb dX4_move_177 rfl (lv_at hl 0 rfl) ?_
                        refine wr_get (ci := 3) (C := RX4) (T := TX4) (N := 11) (v := .ref (mK M)) hx hb hts in_X4 hown hT hI hR.1 rfl 3 (by decide) (hts (.fieldLink RX4 13 "CopyRowsModel" "kinds" "[I") (by decide +kernel)) rfl dX4_move_178 ?_
                        refine lv_iload hx hb dX4_move_181 (lv_at hl 4 rfl) ?_
                        refine W.eq (g2 := F0 m 183 ls [.int (nI (ix (sPl S yj))), .ref (mK M), .int (tt t), .int (kdv T9 (sPl S xj)), .ref (mH M)]) (by rw [nI_ix hrv.1]) ?_
                        refine wr_ialdN (t := ix (sPl S yj)) (n := 520) (f := sKd T9) hx hb hT hI hR.2.2.1 (by have h9 := hrv.2; have h8 := hW.2.2.2; omega) (by omega) dX4_move_183 ?_
                        refine W.eq (g2 := F0 m 184 ls [.int (kdv T9 (sPl S yj)), .int (tt t), .int (kdv T9 (sPl S xj)), .ref (mH M)]) (by rw [kdv_r hrv]) ?_
                        refine ca_V (As := [.int (kdv T9 (sPl S xj)), .int (tt t), .int (kdv T9 (sPl S yj))]) (rest := []) (r0 := (RX4, TX4, 11)) (ci := 3) ⟨hx, hb, hml, hown, hts⟩ (cc_X4_fits l E A _ (kdv T9 (sPl S xj)) (tt t) (kdv T9 (sPl S yj)) (by rw [hall t (by omega)]; subst hT9; exact fit_arg hWs hrus c_34 _ _) hW hR) (cwV 3 hts gX4_move_X4_fits rfl rfl rfl (by decide +kernel) ⟨(Nat.le_of_ble_eq_true rfl), (Nat.le_of_ble_eq_true rfl)⟩) hT hI hA hS rfl hR.1 rfl rfl hl.1 (Nat.le_of_ble_eq_true rfl) dX4_move_184 ⟨(Nat.le_of_ble_eq_true rfl), (Nat.le_of_ble_eq_true rfl)⟩ (fun r w_38 H locs hp_37 hI hS => ?_)
                        obtain ⟨rfl, ⟨hf9, rfl⟩ | ⟨hf9, rfl⟩⟩ := hp_37
                        · have hf9 : fitS S (kdv S (sPl S xj)) (itv S (sPl S xj) (ia + t)) (kdv S (sPl S yj)) := by rw [hall t (by omega)] at hf9; subst hT9; exact hf9
                          refine W.eq (g2 := F0 m 187 ls [.int 1]) rfl ?_
                          refine lv_if_ne (tgt := 198) hx hb dX4_move_187 (by decide) (fun _ => ?_) (fun c => absurd c (by decide))
                          have hok : isN (kdv S (sPl S yj)) ∨ fitS S (kdv S (sPl S xj)) (itv S (sPl S xj) (ia + t)) (kdv S (sPl S yj)) := Or.inr hf9
                          refine lv_aload_n hx hb dX4_move_198 rfl (lv_at hl 0 rfl) ?_
                          refine lv_iload hx hb dX4_move_199 (lv_at hl 4 rfl) ?_
                          refine lv_iload hx hb dX4_move_201 (lv_at hl 1 rfl) ?_
                          refine lv_iload hx hb dX4_move_203 (lv_at hl 5 rfl) ?_
                          refine lv_iadd hx hb dX4_move_205 ?_
                          refine W.eq (g2 := F0 m 206 ls [.int (nI (ja + t)), .int (sPl S yj), .ref (mH M)]) (by rw [show (nI ja : Int32) + nI t = nI (ja + t) from nI_add ja t]) ?_
                          refine lv_aload_n hx hb dX4_move_206 rfl (lv_at hl 0 rfl) ?_
                          refine wr_get (ci := 3) (C := RX4) (T := TX4) (N := 11) (v := .ref (mT M)) hx hb hts in_X4 hown hT hI hR.1 rfl 10 (by decide) (hts (.fieldLink RX4 28 "CopyRowsModel" "third" "[I") (by decide +kernel)) rfl dX4_move_207 ?_
                          refine lv_iload hx hb dX4_move_210 (lv_at hl 5 rfl) ?_
                          refine wr_ialdN (t := t) (n := 40) (f := tt) hx hb hT hI hR.2.2.2.2.2.2.2.1 (by omega) (by omega) dX4_move_212 ?_
                          refine ca_V (As := [.int (sPl S yj), .int (nI (ja + t)), .int (tt t)]) (rest := []) (r0 := (RX4, TX4, 11)) (ci := 3) ⟨hx, hb, hml, hown, hts⟩ (cM_put l E A _ (S := T9) (tt t) hrv (by have := hW.2.2.2; omega) (by omega) hR) (cwV 3 hts gX4_move_X4_put rfl rfl rfl (by decide +kernel) ⟨(Nat.le_of_ble_eq_true rfl), (Nat.le_of_ble_eq_true rfl)⟩) hT hI hA hS rfl hR.1 rfl rfl hl.1 (Nat.le_of_ble_eq_true rfl) dX4_move_213 ⟨(Nat.le_of_ble_eq_true rfl), (Nat.le_of_ble_eq_true rfl)⟩ (fun r w_40 H locs hp_39 hI hS => ?_)
                          obtain ⟨rfl, hR⟩ := hp_39
                          refine W.eq (g2 := F0 m 216 ls []) rfl ?_
                          refine lv_iinc (v := nI (t + 1)) (lv' := [(9, .int (nI (t + 1))), (0, .ref (mH M)), (4, .int (nI ja)), (5, .int (nI nb)), (7, .int (sPl S xj)), (8, .int (sPl S yj))]) hx hb dX4_move_216 hl (k := 5) rfl (nI_1 _) (by decide) rfl (fun ls hl => ?_)
                          refine lv_goto (tgt := 144) hx hb dX4_move_219 (by decide) ?_
                          have e9 : uRow T9 (ix (sPl S yj)) (upd (itv T9 (sPl S yj)) (ja + t) (tt t)) = uRow S (ix (sPl S yj)) (va_cpy (itv S (sPl S xj)) (itv S (sPl S yj)) ia ja (t + 1)) := by rw [hall t (by omega), hT9, row_step hrvs, cpy_step]
                          rw [e9] at hR
                          exact ih (t + 1, uRow S (ix (sPl S yj)) (va_cpy (itv S (sPl S xj)) (itv S (sPl S yj)) ia ja (t + 1))) _ _ _ ⟨⟨by show t + 1 ≤ nb; omega, rfl, fits_lt (k := 0) hfa hok⟩, ⟨_, hI, hR⟩, hS, lv_sub hl [1, 2, 3, 4, 5, 0] rfl⟩ (by show nb - (t + 1) < nb - t; omega)
                        · have hf9 : ¬ fitS S (kdv S (sPl S xj)) (itv S (sPl S xj) (ia + t)) (kdv S (sPl S yj)) := by rw [hall t (by omega)] at hf9; subst hT9; exact hf9
                          refine W.eq (g2 := F0 m 187 ls [.int 0]) rfl ?_
                          refine lv_if_ne (tgt := 198) hx hb dX4_move_187 (by decide) (fun c => absurd c (by decide)) (fun _ => ?_)
                          refine lv_aload_n hx hb dX4_move_190 rfl (lv_at hl 0 rfl) ?_
                          refine lv_iconst (v := 2) hx hb dX4_move_191 (by decide) ?_
                          refine wr_put (ci := 3) (C := RX4) (T := TX4) (N := 11) (v := .int 2) (ty := .int) hx hb hts in_X4 tyX4 tyX4_ok nmX4 hown hT hI hS hR.1 rfl 0 (by decide) (hts (.fieldLink RX4 37 "CopyRowsModel" "code" "I") (by decide +kernel)) rfl (by decide +kernel) rfl rfl (Nat.le_of_ble_eq_true rfl) dX4_move_192 (fun H locs hI hS => ?_)
                          have hR := hR.obj (uCod T9 2) rfl rfl rfl rfl rfl rfl
                          refine lv_iload hx hb dX4_move_195 (lv_at hl 5 rfl) ?_
                          exact re_i hx hb hr hlocks hT hA hS hI (PoM.of (by
                                                        unfold sp_move
                                                        try simp only [pv_nI hxj, pv_nI hyj, ix_nI (show ia < 2 ^ 31 by omega), ix_nI (show nb < 2 ^ 31 by omega), ix_nI (show ja < 2 ^ 31 by omega)]
                                                        rw [if_neg ((fun q => q.elim ho_3 ho_6)), if_neg (hul), if_neg (not_not_intro hm0), if_neg (fun q9 => q9.elim (not_not_intro hg1) (not_not_intro hg2))]
                                                        rw [mvN_at (may_not hWs hrus hm (by rw [hT9] at c_34; exact c_34)) (by omega) hfa hf9, if_pos (by omega), hT9]) hR) (Nat.le_of_ble_eq_true rfl) (Nat.le_of_ble_eq_true rfl) dX4_move_197
                  · have c_30 : ¬ nb ≤ t := fun q => c_30 ((nI_leI (a := nb) (b := t) (by omega) (by omega)).mpr q)
                    refine lv_aload_n hx hb dX4_move_118 rfl (lv_at hl 0 rfl) ?_
                    refine wr_get (ci := 3) (C := RX4) (T := TX4) (N := 11) (v := .ref (mT M)) hx hb hts in_X4 hown hT hI hR.1 rfl 10 (by decide) (hts (.fieldLink RX4 28 "CopyRowsModel" "third" "[I") (by decide +kernel)) rfl dX4_move_119 ?_
                    refine lv_iload hx hb dX4_move_122 (lv_at hl 6 rfl) ?_
                    refine lv_aload_n hx hb dX4_move_124 rfl (lv_at hl 0 rfl) ?_
                    refine lv_iload hx hb dX4_move_125 (lv_at hl 4 rfl) ?_
                    refine lv_iload_n hx hb dX4_move_127 rfl (lv_at hl 1 rfl) ?_
                    refine lv_iload hx hb dX4_move_128 (lv_at hl 6 rfl) ?_
                    refine lv_iadd hx hb dX4_move_130 ?_
                    refine W.eq (g2 := F0 m 131 ls [.int (nI (ia + t)), .int (sPl S xj), .ref (mH M), .int (nI t), .ref (mT M)]) (by rw [show (nI ia : Int32) + nI t = nI (ia + t) from nI_add ia t]) ?_
                    refine ca_V (As := [.int (sPl S xj), .int (nI (ia + t))]) (rest := [.int (nI t), .ref (mT M)]) (r0 := (RX4, TX4, 11)) (ci := 3) ⟨hx, hb, hml, hown, hts⟩ (cM_get l E A _ hru (by have := hW.2.2.2; omega) (by omega) hR) (cwV 2 hts gX4_move_X4_get rfl rfl rfl (by decide +kernel) ⟨(Nat.le_of_ble_eq_true rfl), (Nat.le_of_ble_eq_true rfl)⟩) hT hI hA hS rfl hR.1 rfl rfl hl.1 (Nat.le_of_ble_eq_true rfl) dX4_move_131 ⟨(Nat.le_of_ble_eq_true rfl), (Nat.le_of_ble_eq_true rfl)⟩ (fun r w_43 H locs hp_42 hI hS => ?_)
                    obtain ⟨rfl, rfl⟩ := hp_42
                    refine W.eq (g2 := F0 m 134 ls [.int (itv S (sPl S xj) (ia + t)), .int (nI t), .ref (mT M)]) rfl ?_
                    refine wr_iastN (t := t) (n := 40) (f := tt) hx hb hT hI hS hR.2.2.2.2.2.2.2.1 (by omega) (by omega) dX4_move_134 (fun H locs hI hS => ?_)
                    have hR := hR.th (upd tt t (itv S (sPl S xj) (ia + t)))
                    refine lv_iinc (v := nI (t + 1)) (lv' := [(9, .int (nI (t + 1))), (0, .ref (mH M)), (2, .int (nI ia)), (4, .int (nI ja)), (5, .int (nI nb)), (7, .int (sPl S xj)), (8, .int (sPl S yj))]) hx hb dX4_move_135 hl (k := 6) rfl (nI_1 _) (by decide) rfl (fun ls hl => ?_)
                    refine lv_goto (tgt := 111) hx hb dX4_move_138 (by decide) ?_
                    exact ih (t + 1, upd tt t (itv S (sPl S xj) (ia + t))) _ _ _ ⟨⟨by show t + 1 ≤ nb; omega, fits_lt (k := 0) (fun k h9 => (if_neg (by omega)).trans (hall k h9)) (if_pos rfl)⟩, ⟨_, hI, hR⟩, hS, lv_sub hl [1, 2, 3, 4, 5, 6, 0] rfl⟩ (by show nb - (t + 1) < nb - t; omega)
                · have hg9 : ¬ rg (lnv S (sPl S yj)) j n := fun q9 => c_29 ((rg64 hlv c_16 c_19).mpr q9)
                  refine lv_iconst (v := 3) hx hb dX4_move_77 (by decide) ?_
                  refine lv_istore (lv' := [(6, .int 3), (0, .ref (mH M)), (1, .int (nI xj)), (2, .int i), (3, .int (nI yj)), (4, .int j), (5, .int n)]) hx hb dX4_move_78 hl (by decide) rfl (fun ls hl => ?_)
                  refine lv_iload hx hb dX4_move_80 (lv_at hl 0 rfl) ?_
                  refine lv_if_eq (tgt := 92) hx hb dX4_move_82 (by decide) (fun c => absurd c (by decide)) (fun _ => ?_)
                  refine lv_aload_n hx hb dX4_move_85 rfl (lv_at hl 1 rfl) ?_
                  refine lv_iload hx hb dX4_move_86 (lv_at hl 0 rfl) ?_
                  refine ca_V (As := [.int 3]) (rest := []) (r0 := (RX4, TX4, 11)) (ci := 3) ⟨hx, hb, hml, hown, hts⟩ (cc_X4_no l E A _ 3 hR) (cwV 1 hts gX4_move_X4_no rfl rfl rfl (by decide +kernel) ⟨(Nat.le_of_ble_eq_true rfl), (Nat.le_of_ble_eq_true rfl)⟩) hT hI hA hS rfl hR.1 rfl rfl hl.1 (Nat.le_of_ble_eq_true rfl) dX4_move_88 ⟨(Nat.le_of_ble_eq_true rfl), (Nat.le_of_ble_eq_true rfl)⟩ (fun r w_45 H locs hp_44 hI hS => ?_)
                  obtain ⟨rfl, hR⟩ := hp_44
                  refine W.eq (g2 := F0 m 91 ls [.int 0]) rfl ?_
                  exact re_i hx hb hr hlocks hT hA hS hI (PoM.of (by
                                        unfold sp_move
                                        try simp only [pv_nI hxj, pv_nI hyj]
                                        rw [if_neg ((fun q => q.elim ho_3 ho_6)), if_neg (hul), if_neg (not_not_intro hm0), if_pos (Or.inr hg9)]) hR) (Nat.le_of_ble_eq_true rfl) (Nat.le_of_ble_eq_true rfl) dX4_move_91
    · have ho_6 : oP y := Classical.not_not.mp ho_6
      refine W.eq (g2 := F0 m 11 ls [.int 0]) rfl ?_
      refine lv_if_ne (tgt := 17) hx hb dX4_move_11 (by decide) (fun c => absurd c (by decide)) (fun _ => ?_)
      refine lv_ldc (v := -2000000001) hx hb hown (hts (.constant RX4 54 (-2000000001)) (by decide +kernel)) dX4_move_14 ?_
      exact re_i hx hb hr hlocks hT hA hS hI (PoM.of (by
                unfold sp_move
                rw [if_pos (Or.inr (ho_6))]) hR) (Nat.le_of_ble_eq_true rfl) (Nat.le_of_ble_eq_true rfl) dX4_move_16
  · have ho_3 : oP x := Classical.not_not.mp ho_3
    refine W.eq (g2 := F0 m 4 ls [.int 0]) rfl ?_
    refine lv_if_eq (tgt := 14) hx hb dX4_move_4 (by decide) (fun _ => ?_) (fun c => absurd c (by decide))
    refine lv_ldc (v := -2000000001) hx hb hown (hts (.constant RX4 54 (-2000000001)) (by decide +kernel)) dX4_move_14 ?_
    exact re_i hx hb hr hlocks hT hA hS hI (PoM.of (by
            unfold sp_move
            rw [if_pos (Or.inl ho_3)]) hR) (Nat.le_of_ble_eq_true rfl) (Nat.le_of_ble_eq_true rfl) dX4_move_16

set_option maxHeartbeats 4000000 in
set_option maxRecDepth 100000 in
theorem cc_X4_rotate (l : Launch) (E : En) (A : Nat → Prop) (w : Wd) {S : Sx} {M : Md} {tt : Nat → Int32} (p b : Int32) (hW : Wf S) (hR : Rm E S M tt w) (hb9 : sNr S < 512 ∧ sNt S < 512 ∧ sNl S < 512) : Ct l yX4_rotate wsX4_rotate ({ frames := 2, cells := 0, slots := 0, locals := 45 } : Room) E A w [.ref (mH M), .int p, .int b] (fun r w' => PoM E M (sp_rotate S p b) r w') 0 0 := by
  refine Met.ofW (cc := cX4_rotate) (maxL := 8) (ret := (some .int)) (by decide) rfl ?_
  intro pp0 ee0 s m args below meth cc0 s₁ B hml hv
  obtain ⟨rfl, hT, hI, hA⟩ := hv
  have hx := B.exec
  have hb := B.bytes
  have hr := B.returns
  have hts := atoms_spec (ws := wsX4_rotate) B.pre
  have hown : s.vm.findClass RX4 = some m.cls := findClass_of_methodNamed B.named
  have hlocks := B.notSynchronized
  have in_X4 : ∀ w ∈ wsX40, w ∈ wsX4_rotate := by decide +kernel
  have hS : va_S A s.heap s.heap [] := va_S.rf
  have hl := lv_entry ([.ref (mH M), .int p, .int b]) (n := 8) (Nat.le_of_ble_eq_true rfl)
  rw [lg_entry_eq]
  generalize (lg_sl ([.ref (mH M), .int p, .int b]) ++ List.replicate (8 - (lg_sl ([.ref (mH M), .int p, .int b])).length) Slot.unset).toArray = ls at hl ⊢
  have hl : lv_has ls 8 [(0, .ref (mH M)), (1, .int p), (2, .int b)] := hl
  refine lv_iload_n hx hb dX4_rotate_0 rfl (lv_at hl 1 rfl) ?_
  refine ca_S (As := [.int p]) (rest := []) ⟨hx, hb, hml, hown, hts⟩ (cc_X4_isPlace l E A _ p) (va_cwS 1 hts gX4_rotate_X4_isPlace rfl rfl rfl (by decide +kernel) ⟨(Nat.le_of_ble_eq_true rfl), (Nat.le_of_ble_eq_true rfl)⟩) hT hI hA hS rfl rfl hl.1 (Nat.le_of_ble_eq_true rfl) dX4_rotate_1 ⟨(Nat.le_of_ble_eq_true rfl), (Nat.le_of_ble_eq_true rfl)⟩ (fun r w_2 H locs hp_1 hI hS => ?_)
  obtain ⟨rfl, ⟨ho_3, rfl⟩ | ⟨ho_3, rfl⟩⟩ := hp_1
  · refine W.eq (g2 := F0 m 4 ls [.int 1]) rfl ?_
    refine lv_if_ne (tgt := 10) hx hb dX4_rotate_4 (by decide) (fun _ => ?_) (fun c => absurd c (by decide))
    obtain ⟨pj, hpj, rfl⟩ := isP_nat ho_3
    refine lv_aload_n hx hb dX4_rotate_10 rfl (lv_at hl 0 rfl) ?_
    refine lv_iload_n hx hb dX4_rotate_11 rfl (lv_at hl 1 rfl) ?_
    refine ca_V (As := [.int (nI pj)]) (rest := []) (r0 := (RX4, TX4, 11)) (ci := 3) ⟨hx, hb, hml, hown, hts⟩ (cc_X4_wantsRow l E A _ (by omega) hW hR) (cwV 1 hts gX4_rotate_X4_wantsRow rfl rfl rfl (by decide +kernel) ⟨(Nat.le_of_ble_eq_true rfl), (Nat.le_of_ble_eq_true rfl)⟩) hT hI hA hS rfl hR.1 rfl rfl hl.1 (Nat.le_of_ble_eq_true rfl) dX4_rotate_12 ⟨(Nat.le_of_ble_eq_true rfl), (Nat.le_of_ble_eq_true rfl)⟩ (fun r w_5 H locs hp_4 hI hS => ?_)
    obtain ⟨rfl, ⟨ez6, rfl⟩ | ⟨ez6, e66, rfl⟩ | ⟨ez6, hr6, rfl⟩⟩ := hp_4
    · refine W.eq (g2 := F0 m 15 ls [.int 1]) rfl ?_
      refine lv_istore_n (lv' := [(3, .int 1), (0, .ref (mH M)), (1, .int (nI pj)), (2, .int b)]) hx hb dX4_rotate_15 rfl hl (by decide) rfl (fun ls hl => ?_)
      refine lv_iload_n hx hb dX4_rotate_16 rfl (lv_at hl 0 rfl) ?_
      refine lv_if_ne (tgt := 31) hx hb dX4_rotate_17 (by decide) (fun _ => ?_) (fun c => absurd c (by decide))
      refine lv_iload_n hx hb dX4_rotate_31 rfl (lv_at hl 0 rfl) ?_
      refine lv_if_eq (tgt := 41) hx hb dX4_rotate_32 (by decide) (fun c => absurd c (by decide)) (fun _ => ?_)
      refine lv_aload_n hx hb dX4_rotate_35 rfl (lv_at hl 1 rfl) ?_
      refine lv_iload_n hx hb dX4_rotate_36 rfl (lv_at hl 0 rfl) ?_
      refine ca_V (As := [.int 1]) (rest := []) (r0 := (RX4, TX4, 11)) (ci := 3) ⟨hx, hb, hml, hown, hts⟩ (cc_X4_no l E A _ 1 hR) (cwV 1 hts gX4_rotate_X4_no rfl rfl rfl (by decide +kernel) ⟨(Nat.le_of_ble_eq_true rfl), (Nat.le_of_ble_eq_true rfl)⟩) hT hI hA hS rfl hR.1 rfl rfl hl.1 (Nat.le_of_ble_eq_true rfl) dX4_rotate_37 ⟨(Nat.le_of_ble_eq_true rfl), (Nat.le_of_ble_eq_true rfl)⟩ (fun r w_8 H locs hp_7 hI hS => ?_)
      obtain ⟨rfl, hR⟩ := hp_7
      refine W.eq (g2 := F0 m 40 ls [.int 0]) rfl ?_
      exact re_i hx hb hr hlocks hT hA hS hI (PoM.of (by
                unfold sp_rotate
                try simp only [pv_nI hpj]
                rw [if_neg (ho_3), if_pos (ez6)]
                try rfl) hR) (Nat.le_of_ble_eq_true rfl) (Nat.le_of_ble_eq_true rfl) dX4_rotate_40
    · refine W.eq (g2 := F0 m 15 ls [.int 5]) rfl ?_
      refine lv_istore_n (lv' := [(3, .int 5), (0, .ref (mH M)), (1, .int (nI pj)), (2, .int b)]) hx hb dX4_rotate_15 rfl hl (by decide) rfl (fun ls hl => ?_)
      refine lv_iload_n hx hb dX4_rotate_16 rfl (lv_at hl 0 rfl) ?_
      refine lv_if_ne (tgt := 31) hx hb dX4_rotate_17 (by decide) (fun _ => ?_) (fun c => absurd c (by decide))
      refine lv_iload_n hx hb dX4_rotate_31 rfl (lv_at hl 0 rfl) ?_
      refine lv_if_eq (tgt := 41) hx hb dX4_rotate_32 (by decide) (fun c => absurd c (by decide)) (fun _ => ?_)
      refine lv_aload_n hx hb dX4_rotate_35 rfl (lv_at hl 1 rfl) ?_
      refine lv_iload_n hx hb dX4_rotate_36 rfl (lv_at hl 0 rfl) ?_
      refine ca_V (As := [.int 5]) (rest := []) (r0 := (RX4, TX4, 11)) (ci := 3) ⟨hx, hb, hml, hown, hts⟩ (cc_X4_no l E A _ 5 hR) (cwV 1 hts gX4_rotate_X4_no rfl rfl rfl (by decide +kernel) ⟨(Nat.le_of_ble_eq_true rfl), (Nat.le_of_ble_eq_true rfl)⟩) hT hI hA hS rfl hR.1 rfl rfl hl.1 (Nat.le_of_ble_eq_true rfl) dX4_rotate_37 ⟨(Nat.le_of_ble_eq_true rfl), (Nat.le_of_ble_eq_true rfl)⟩ (fun r w_10 H locs hp_9 hI hS => ?_)
      obtain ⟨rfl, hR⟩ := hp_9
      refine W.eq (g2 := F0 m 40 ls [.int 0]) rfl ?_
      exact re_i hx hb hr hlocks hT hA hS hI (PoM.of (by
                unfold sp_rotate
                try simp only [pv_nI hpj]
                rw [if_neg (ho_3), if_neg (ez6), if_pos (e66)]
                try rfl) hR) (Nat.le_of_ble_eq_true rfl) (Nat.le_of_ble_eq_true rfl) dX4_rotate_40
    · have hln6 := hW.ln (Or.inl hr6)
      refine W.eq (g2 := F0 m 15 ls [.int 0]) rfl ?_
      refine lv_istore_n (lv' := [(3, .int 0), (0, .ref (mH M)), (1, .int (nI pj)), (2, .int b)]) hx hb dX4_rotate_15 rfl hl (by decide) rfl (fun ls hl => ?_)
      refine lv_iload_n hx hb dX4_rotate_16 rfl (lv_at hl 0 rfl) ?_
      refine lv_if_ne (tgt := 31) hx hb dX4_rotate_17 (by decide) (fun c => absurd c (by decide)) (fun _ => ?_)
      refine lv_aload_n hx hb dX4_rotate_20 rfl (lv_at hl 1 rfl) ?_
      refine lv_iload_n hx hb dX4_rotate_21 rfl (lv_at hl 2 rfl) ?_
      refine ca_V (As := [.int (nI pj)]) (rest := []) (r0 := (RX4, TX4, 11)) (ci := 3) ⟨hx, hb, hml, hown, hts⟩ (cc_X4_lengthOf l E A _ (by omega) hW hR hr6) (cwV 1 hts gX4_rotate_X4_lengthOf rfl rfl rfl (by decide +kernel) ⟨(Nat.le_of_ble_eq_true rfl), (Nat.le_of_ble_eq_true rfl)⟩) hT hI hA hS rfl hR.1 rfl rfl hl.1 (Nat.le_of_ble_eq_true rfl) dX4_rotate_22 ⟨(Nat.le_of_ble_eq_true rfl), (Nat.le_of_ble_eq_true rfl)⟩ (fun r w_12 H locs hp_11 hI hS => ?_)
      obtain ⟨rfl, rfl⟩ := hp_11
      refine W.eq (g2 := F0 m 25 ls [.int (nI (lnv S (sPl S pj)))]) rfl ?_
      refine lv_if_ne (tgt := 31) hx hb dX4_rotate_25 (by decide) (fun c_13 => ?_) (fun c_13 => ?_)
      · have c_13 : ¬ lnv S (sPl S pj) = 0 := fun q => c_13 ((nI_eq (a := lnv S (sPl S pj)) (b := 0) (by omega) (by omega)).mpr q)
        refine lv_iload_n hx hb dX4_rotate_31 rfl (lv_at hl 0 rfl) ?_
        refine lv_if_eq (tgt := 41) hx hb dX4_rotate_32 (by decide) (fun _ => ?_) (fun c => absurd c (by decide))
        refine lv_aload_n hx hb dX4_rotate_41 rfl (lv_at hl 1 rfl) ?_
        refine wr_get (ci := 3) (C := RX4) (T := TX4) (N := 11) (v := .ref (mP M)) hx hb hts in_X4 hown hT hI hR.1 rfl 1 (by decide) (hts (.fieldLink RX4 7 "CopyRowsModel" "places" "[I") (by decide +kernel)) rfl dX4_rotate_42 ?_
        refine lv_iload_n hx hb dX4_rotate_45 rfl (lv_at hl 2 rfl) ?_
        refine wr_ialdN (t := pj) (n := 12) (f := plF S) hx hb hT hI hR.2.1 (by omega) (by omega) dX4_rotate_46 ?_
        refine W.eq (g2 := F0 m 47 ls [.int (sPl S pj)]) (by rw [plF_at (by omega)]) ?_
        refine lv_istore (lv' := [(4, .int (sPl S pj)), (3, .int 0), (0, .ref (mH M)), (1, .int (nI pj)), (2, .int b)]) hx hb dX4_rotate_47 hl (by decide) rfl (fun ls hl => ?_)
        refine lv_aload_n hx hb dX4_rotate_49 rfl (lv_at hl 2 rfl) ?_
        refine wr_get (ci := 3) (C := RX4) (T := TX4) (N := 11) (v := .ref (mL M)) hx hb hts in_X4 hown hT hI hR.1 rfl 4 (by decide) (hts (.fieldLink RX4 16 "CopyRowsModel" "lengths" "[I") (by decide +kernel)) rfl dX4_rotate_50 ?_
        refine lv_iload hx hb dX4_rotate_53 (lv_at hl 0 rfl) ?_
        refine W.eq (g2 := F0 m 55 ls [.int (nI (ix (sPl S pj))), .ref (mL M)]) (by rw [nI_ix hr6.1]) ?_
        refine wr_ialdN (t := ix (sPl S pj)) (n := 520) (f := lnF S) hx hb hT hI hR.2.2.2.1 (by have h9 := hr6.2; have h8 := hW.2.2.2; omega) (by omega) dX4_rotate_55 ?_
        refine W.eq (g2 := F0 m 56 ls [.int (nI (lnv S (sPl S pj)))]) (by rw [lnv_r hr6]; rfl) ?_
        refine lv_istore (lv' := [(5, .int (nI (lnv S (sPl S pj)))), (4, .int (sPl S pj)), (3, .int 0), (0, .ref (mH M)), (1, .int (nI pj)), (2, .int b)]) hx hb dX4_rotate_56 hl (by decide) rfl (fun ls hl => ?_)
        refine lv_iload_n hx hb dX4_rotate_58 rfl (lv_at hl 5 rfl) ?_
        refine lv_iload hx hb dX4_rotate_59 (lv_at hl 0 rfl) ?_
        have h0 : 0 < lnv S (sPl S pj) := Nat.pos_of_ne_zero c_13
        have hln9 := hW.ln (Or.inl hr6)
        have hst := rotI_lt (b := b) h0
        have hrm := rot_mod (x := b) h0 hln9
        generalize hsq : rotI b (lnv S (sPl S pj)) = st at hst hrm
        refine lv_irem hx hb dX4_rotate_61 (nI_ne0 h0 (by omega)) ?_
        refine lv_istore (lv' := [(6, .int (b - b / (nI (lnv S (sPl S pj))) * (nI (lnv S (sPl S pj))))), (5, .int (nI (lnv S (sPl S pj)))), (4, .int (sPl S pj)), (3, .int 0), (0, .ref (mH M)), (1, .int (nI pj)), (2, .int b)]) hx hb dX4_rotate_62 hl (by decide) rfl (fun ls hl => ?_)
        refine lv_iload hx hb dX4_rotate_64 (lv_at hl 0 rfl) ?_
        refine lv_if_ge (tgt := 77) hx hb dX4_rotate_66 (by decide) (fun c_14 => ?_) (fun c_14 => ?_)
        · refine lv_iload hx hb dX4_rotate_77 (lv_at hl 0 rfl) ?_
          rw [if_neg (Int32.not_lt.mpr c_14)] at hrm
          refine W.eq (g2 := F0 m 79 ls [.int (nI st)]) (by rw [← hrm]) ?_
          refine lv_istore (lv' := [(6, .int (nI st)), (5, .int (nI (lnv S (sPl S pj)))), (4, .int (sPl S pj)), (3, .int 0), (0, .ref (mH M)), (1, .int (nI pj)), (2, .int b)]) hx hb dX4_rotate_79 hl (by decide) rfl (fun ls hl => ?_)
          refine lv_iconst (v := 0) hx hb dX4_rotate_81 (by decide) ?_
          refine lv_istore (lv' := [(7, .int 0), (6, .int (nI st)), (5, .int (nI (lnv S (sPl S pj)))), (4, .int (sPl S pj)), (3, .int 0), (0, .ref (mH M)), (1, .int (nI pj)), (2, .int b)]) hx hb dX4_rotate_82 hl (by decide) rfl (fun ls hl => ?_)
          refine lp_w (ι := Nat × (Nat → Int32)) (fun q9 => lnv S (sPl S pj) - q9.1) (fun q9 H locs ls => (q9.1 ≤ lnv S (sPl S pj) ∧ ∀ k, k < q9.1 → q9.2 ((k + st) % (lnv S (sPl S pj))) = itv S (sPl S pj) k) ∧ (∃ w9, Hv E A w9 H ∧ Rm E S M q9.2 w9) ∧ va_S A s.heap H locs ∧ lv_has ls 8 [(0, .ref (mH M)), (4, .int (sPl S pj)), (5, .int (nI (lnv S (sPl S pj)))), (6, .int (nI st)), (7, .int (nI q9.1))]) ?_ (0, tt) _ _ _ ⟨⟨Nat.zero_le _, fun k h9 => absurd h9 (Nat.not_lt_zero _)⟩, ⟨_, hI, hR⟩, hS, lv_sub hl [5, 3, 2, 1, 0] rfl⟩
          rintro ⟨t, tt⟩ H locs ls ⟨⟨ht, hall⟩, ⟨w9, hI, hR⟩, hS, hl⟩ ih
          dsimp only at ht hall hR hl
          refine lv_iload hx hb dX4_rotate_84 (lv_at hl 4 rfl) ?_
          refine lv_iload hx hb dX4_rotate_86 (lv_at hl 2 rfl) ?_
          refine lv_icmp_ge (tgt := 118) hx hb dX4_rotate_88 (by decide) (fun c_15 => ?_) (fun c_15 => ?_)
          · have c_15 : lnv S (sPl S pj) ≤ t := (nI_leI (a := lnv S (sPl S pj)) (b := t) (by omega) (by omega)).mp c_15
            refine lv_iconst (v := 0) hx hb dX4_rotate_118 (by decide) ?_
            refine lv_istore (lv' := [(7, .int 0), (0, .ref (mH M)), (4, .int (sPl S pj)), (5, .int (nI (lnv S (sPl S pj)))), (6, .int (nI st))]) hx hb dX4_rotate_119 hl (by decide) rfl (fun ls hl => ?_)
            have hall : ∀ k, k < lnv S (sPl S pj) → tt ((k + st) % (lnv S (sPl S pj))) = itv S (sPl S pj) k := fun k h9 => hall k (by omega)
            have hWs := hW
            have hrs := hr6
            have hR : Rm E (uRow S (ix (sPl S pj)) (fun k9 => if k9 < 0 then tt k9 else itv S (sPl S pj) k9)) M tt w9 := by rw [show (fun k9 => if k9 < 0 then tt k9 else itv S (sPl S pj) k9) = itv S (sPl S pj) from funext (fun k9 => if_neg (Nat.not_lt_zero _)), uRow_id hrs]; exact hR
            refine lp_w (ι := Nat × Sx) (fun q9 => lnv S (sPl S pj) - q9.1) (fun q9 H locs ls => (q9.1 ≤ lnv S (sPl S pj) ∧ q9.2 = uRow S (ix (sPl S pj)) (fun k9 => if k9 < q9.1 then tt k9 else itv S (sPl S pj) k9)) ∧ (∃ w9, Hv E A w9 H ∧ Rm E q9.2 M tt w9) ∧ va_S A s.heap H locs ∧ lv_has ls 8 [(0, .ref (mH M)), (4, .int (sPl S pj)), (5, .int (nI (lnv S (sPl S pj)))), (6, .int (nI st)), (7, .int (nI q9.1))]) ?_ (0, uRow S (ix (sPl S pj)) (fun k9 => if k9 < 0 then tt k9 else itv S (sPl S pj) k9)) _ _ _ ⟨⟨Nat.zero_le _, rfl⟩, ⟨_, hI, hR⟩, hS, lv_sub hl [1, 2, 3, 4, 0] rfl⟩
            clear ih
            rintro ⟨t, T9⟩ H locs ls ⟨⟨ht, hT9⟩, ⟨w9, hI, hR⟩, hS, hl⟩ ih
            dsimp only at ht hT9 hR hl
            have hW : Wf T9 := by
              rw [hT9]
              refine hWs.perm hrs (fun k9 => ?_)
              by_cases h9 : k9 < t
              · exact ⟨_, (if_pos h9).trans (rot_read hst hall (by omega))⟩
              · exact ⟨k9, if_neg h9⟩
            have hr8 : vR T9 (sPl S pj) := by rw [hT9]; exact hrs
            refine lv_iload hx hb dX4_rotate_121 (lv_at hl 4 rfl) ?_
            refine lv_iload hx hb dX4_rotate_123 (lv_at hl 2 rfl) ?_
            refine lv_icmp_ge (tgt := 149) hx hb dX4_rotate_125 (by decide) (fun c_16 => ?_) (fun c_16 => ?_)
            · have c_16 : lnv S (sPl S pj) ≤ t := (nI_leI (a := lnv S (sPl S pj)) (b := t) (by omega) (by omega)).mp c_16
              refine lv_aload_n hx hb dX4_rotate_149 rfl (lv_at hl 0 rfl) ?_
              refine lv_iload hx hb dX4_rotate_150 (lv_at hl 3 rfl) ?_
              refine ca_V (As := [.int (nI st)]) (rest := []) (r0 := (RX4, TX4, 11)) (ci := 3) ⟨hx, hb, hml, hown, hts⟩ (cc_X4_yes l E A _ (nI st) hR) (cwV 1 hts gX4_rotate_X4_yes rfl rfl rfl (by decide +kernel) ⟨(Nat.le_of_ble_eq_true rfl), (Nat.le_of_ble_eq_true rfl)⟩) hT hI hA hS rfl hR.1 rfl rfl hl.1 (Nat.le_of_ble_eq_true rfl) dX4_rotate_152 ⟨(Nat.le_of_ble_eq_true rfl), (Nat.le_of_ble_eq_true rfl)⟩ (fun r w_18 H locs hp_17 hI hS => ?_)
              obtain ⟨rfl, hR⟩ := hp_17
              refine W.eq (g2 := F0 m 155 ls [.int (nI st)]) rfl ?_
              exact re_i hx hb hr hlocks hT hA hS hI (PoM.of (by
                                unfold sp_rotate
                                try simp only [pv_nI hpj]
                                rw [if_neg (ho_3), if_neg (ez6), if_neg ((row_kd hWs hrs)), if_neg (c_13)]
                                rw [hsq, hT9, show (fun k9 => if k9 < t then tt k9 else itv S (sPl S pj) k9) = rotF (itv S (sPl S pj)) (lnv S (sPl S pj)) st from funext (fun k9 => ?_)]
                                unfold rotF
                                by_cases h9 : k9 < lnv S (sPl S pj)
                                · rw [if_pos h9, if_pos (by omega), rot_read hst hall h9]
                                · rw [if_neg h9, if_neg (by omega)]) hR) (Nat.le_of_ble_eq_true rfl) (Nat.le_of_ble_eq_true rfl) dX4_rotate_155
            · have c_16 : ¬ lnv S (sPl S pj) ≤ t := fun q => c_16 ((nI_leI (a := lnv S (sPl S pj)) (b := t) (by omega) (by omega)).mpr q)
              refine lv_aload_n hx hb dX4_rotate_128 rfl (lv_at hl 0 rfl) ?_
              refine lv_iload hx hb dX4_rotate_129 (lv_at hl 1 rfl) ?_
              refine lv_iload hx hb dX4_rotate_131 (lv_at hl 4 rfl) ?_
              refine lv_aload_n hx hb dX4_rotate_133 rfl (lv_at hl 0 rfl) ?_
              refine wr_get (ci := 3) (C := RX4) (T := TX4) (N := 11) (v := .ref (mT M)) hx hb hts in_X4 hown hT hI hR.1 rfl 10 (by decide) (hts (.fieldLink RX4 28 "CopyRowsModel" "third" "[I") (by decide +kernel)) rfl dX4_rotate_134 ?_
              refine lv_iload hx hb dX4_rotate_137 (lv_at hl 4 rfl) ?_
              refine wr_ialdN (t := t) (n := 40) (f := tt) hx hb hT hI hR.2.2.2.2.2.2.2.1 (by omega) (by omega) dX4_rotate_139 ?_
              refine ca_V (As := [.int (sPl S pj), .int (nI t), .int (tt t)]) (rest := []) (r0 := (RX4, TX4, 11)) (ci := 3) ⟨hx, hb, hml, hown, hts⟩ (cM_put l E A _ (S := T9) (tt t) hr8 (by have := hW.2.2.2; omega) (by omega) hR) (cwV 3 hts gX4_rotate_X4_put rfl rfl rfl (by decide +kernel) ⟨(Nat.le_of_ble_eq_true rfl), (Nat.le_of_ble_eq_true rfl)⟩) hT hI hA hS rfl hR.1 rfl rfl hl.1 (Nat.le_of_ble_eq_true rfl) dX4_rotate_140 ⟨(Nat.le_of_ble_eq_true rfl), (Nat.le_of_ble_eq_true rfl)⟩ (fun r w_20 H locs hp_19 hI hS => ?_)
              obtain ⟨rfl, hR⟩ := hp_19
              refine W.eq (g2 := F0 m 143 ls []) rfl ?_
              refine lv_iinc (v := nI (t + 1)) (lv' := [(7, .int (nI (t + 1))), (0, .ref (mH M)), (4, .int (sPl S pj)), (5, .int (nI (lnv S (sPl S pj)))), (6, .int (nI st))]) hx hb dX4_rotate_143 hl (k := 4) rfl (nI_1 _) (by decide) rfl (fun ls hl => ?_)
              refine lv_goto (tgt := 121) hx hb dX4_rotate_146 (by decide) ?_
              have e9 : uRow T9 (ix (sPl S pj)) (upd (itv T9 (sPl S pj)) t (tt t)) = uRow S (ix (sPl S pj)) (fun k9 => if k9 < (t + 1) then tt k9 else itv S (sPl S pj) k9) := by rw [hT9, row_step hrs, rot_put]
              rw [e9] at hR
              exact ih (t + 1, uRow S (ix (sPl S pj)) (fun k9 => if k9 < (t + 1) then tt k9 else itv S (sPl S pj) k9)) _ _ _ ⟨⟨by show t + 1 ≤ lnv S (sPl S pj); omega, rfl⟩, ⟨_, hI, hR⟩, hS, lv_sub hl [1, 2, 3, 4, 0] rfl⟩ (by show lnv S (sPl S pj) - (t + 1) < lnv S (sPl S pj) - t; omega)
          · have c_15 : ¬ lnv S (sPl S pj) ≤ t := fun q => c_15 ((nI_leI (a := lnv S (sPl S pj)) (b := t) (by omega) (by omega)).mpr q)
            refine lv_aload_n hx hb dX4_rotate_91 rfl (lv_at hl 0 rfl) ?_
            refine wr_get (ci := 3) (C := RX4) (T := TX4) (N := 11) (v := .ref (mT M)) hx hb hts in_X4 hown hT hI hR.1 rfl 10 (by decide) (hts (.fieldLink RX4 28 "CopyRowsModel" "third" "[I") (by decide +kernel)) rfl dX4_rotate_92 ?_
            refine lv_iload hx hb dX4_rotate_95 (lv_at hl 4 rfl) ?_
            refine lv_iload hx hb dX4_rotate_97 (lv_at hl 3 rfl) ?_
            refine lv_iadd hx hb dX4_rotate_99 ?_
            refine W.eq (g2 := F0 m 100 ls [.int (nI (t + st)), .ref (mT M)]) (by rw [show (nI t : Int32) + nI st = nI (t + st) from nI_add t st]) ?_
            refine lv_iload hx hb dX4_rotate_100 (lv_at hl 2 rfl) ?_
            refine lv_irem hx hb dX4_rotate_102 (nI_ne0 h0 (by omega)) ?_
            refine W.eq (g2 := F0 m 103 ls [.int (nI ((t + st) % (lnv S (sPl S pj)))), .ref (mT M)]) (by rw [pk_rem (by omega) h0 (by omega)]) ?_
            have hmd := Nat.mod_lt (t + st) h0
            refine lv_aload_n hx hb dX4_rotate_103 rfl (lv_at hl 0 rfl) ?_
            refine lv_iload hx hb dX4_rotate_104 (lv_at hl 1 rfl) ?_
            refine lv_iload hx hb dX4_rotate_106 (lv_at hl 4 rfl) ?_
            refine ca_V (As := [.int (sPl S pj), .int (nI t)]) (rest := [.int (nI ((t + st) % (lnv S (sPl S pj)))), .ref (mT M)]) (r0 := (RX4, TX4, 11)) (ci := 3) ⟨hx, hb, hml, hown, hts⟩ (cM_get l E A _ hr6 (by have := hW.2.2.2; omega) (by omega) hR) (cwV 2 hts gX4_rotate_X4_get rfl rfl rfl (by decide +kernel) ⟨(Nat.le_of_ble_eq_true rfl), (Nat.le_of_ble_eq_true rfl)⟩) hT hI hA hS rfl hR.1 rfl rfl hl.1 (Nat.le_of_ble_eq_true rfl) dX4_rotate_108 ⟨(Nat.le_of_ble_eq_true rfl), (Nat.le_of_ble_eq_true rfl)⟩ (fun r w_22 H locs hp_21 hI hS => ?_)
            obtain ⟨rfl, rfl⟩ := hp_21
            refine W.eq (g2 := F0 m 111 ls [.int (itv S (sPl S pj) t), .int (nI ((t + st) % (lnv S (sPl S pj)))), .ref (mT M)]) rfl ?_
            refine wr_iastN (t := (t + st) % (lnv S (sPl S pj))) (n := 40) (f := tt) hx hb hT hI hS hR.2.2.2.2.2.2.2.1 (by omega) (by omega) dX4_rotate_111 (fun H locs hI hS => ?_)
            have hR := hR.th (upd tt ((t + st) % (lnv S (sPl S pj))) (itv S (sPl S pj) t))
            refine lv_iinc (v := nI (t + 1)) (lv' := [(7, .int (nI (t + 1))), (0, .ref (mH M)), (4, .int (sPl S pj)), (5, .int (nI (lnv S (sPl S pj)))), (6, .int (nI st))]) hx hb dX4_rotate_112 hl (k := 4) rfl (nI_1 _) (by decide) rfl (fun ls hl => ?_)
            refine lv_goto (tgt := 84) hx hb dX4_rotate_115 (by decide) ?_
            exact ih (t + 1, upd tt ((t + st) % (lnv S (sPl S pj))) (itv S (sPl S pj) t)) _ _ _ ⟨⟨by show t + 1 ≤ lnv S (sPl S pj); omega, rot_fill hst (by omega) hall⟩, ⟨_, hI, hR⟩, hS, lv_sub hl [1, 2, 3, 4, 0] rfl⟩ (by show lnv S (sPl S pj) - (t + 1) < lnv S (sPl S pj) - t; omega)
        · refine lv_iload hx hb dX4_rotate_69 (lv_at hl 0 rfl) ?_
          refine lv_iload hx hb dX4_rotate_71 (lv_at hl 1 rfl) ?_
          refine lv_iadd hx hb dX4_rotate_73 ?_
          refine lv_goto (tgt := 79) hx hb dX4_rotate_74 (by decide) ?_
          rw [if_pos (Int32.not_le.mp c_14)] at hrm
          refine W.eq (g2 := F0 m 79 ls [.int (nI st)]) (by rw [← hrm]) ?_
          refine lv_istore (lv' := [(6, .int (nI st)), (5, .int (nI (lnv S (sPl S pj)))), (4, .int (sPl S pj)), (3, .int 0), (0, .ref (mH M)), (1, .int (nI pj)), (2, .int b)]) hx hb dX4_rotate_79 hl (by decide) rfl (fun ls hl => ?_)
          refine lv_iconst (v := 0) hx hb dX4_rotate_81 (by decide) ?_
          refine lv_istore (lv' := [(7, .int 0), (6, .int (nI st)), (5, .int (nI (lnv S (sPl S pj)))), (4, .int (sPl S pj)), (3, .int 0), (0, .ref (mH M)), (1, .int (nI pj)), (2, .int b)]) hx hb dX4_rotate_82 hl (by decide) rfl (fun ls hl => ?_)
          refine lp_w (ι := Nat × (Nat → Int32)) (fun q9 => lnv S (sPl S pj) - q9.1) (fun q9 H locs ls => (q9.1 ≤ lnv S (sPl S pj) ∧ ∀ k, k < q9.1 → q9.2 ((k + st) % (lnv S (sPl S pj))) = itv S (sPl S pj) k) ∧ (∃ w9, Hv E A w9 H ∧ Rm E S M q9.2 w9) ∧ va_S A s.heap H locs ∧ lv_has ls 8 [(0, .ref (mH M)), (4, .int (sPl S pj)), (5, .int (nI (lnv S (sPl S pj)))), (6, .int (nI st)), (7, .int (nI q9.1))]) ?_ (0, tt) _ _ _ ⟨⟨Nat.zero_le _, fun k h9 => absurd h9 (Nat.not_lt_zero _)⟩, ⟨_, hI, hR⟩, hS, lv_sub hl [5, 3, 2, 1, 0] rfl⟩
          rintro ⟨t, tt⟩ H locs ls ⟨⟨ht, hall⟩, ⟨w9, hI, hR⟩, hS, hl⟩ ih
          dsimp only at ht hall hR hl
          refine lv_iload hx hb dX4_rotate_84 (lv_at hl 4 rfl) ?_
          refine lv_iload hx hb dX4_rotate_86 (lv_at hl 2 rfl) ?_
          refine lv_icmp_ge (tgt := 118) hx hb dX4_rotate_88 (by decide) (fun c_23 => ?_) (fun c_23 => ?_)
          · have c_23 : lnv S (sPl S pj) ≤ t := (nI_leI (a := lnv S (sPl S pj)) (b := t) (by omega) (by omega)).mp c_23
            refine lv_iconst (v := 0) hx hb dX4_rotate_118 (by decide) ?_
            refine lv_istore (lv' := [(7, .int 0), (0, .ref (mH M)), (4, .int (sPl S pj)), (5, .int (nI (lnv S (sPl S pj)))), (6, .int (nI st))]) hx hb dX4_rotate_119 hl (by decide) rfl (fun ls hl => ?_)
            have hall : ∀ k, k < lnv S (sPl S pj) → tt ((k + st) % (lnv S (sPl S pj))) = itv S (sPl S pj) k := fun k h9 => hall k (by omega)
            have hWs := hW
            have hrs := hr6
            have hR : Rm E (uRow S (ix (sPl S pj)) (fun k9 => if k9 < 0 then tt k9 else itv S (sPl S pj) k9)) M tt w9 := by rw [show (fun k9 => if k9 < 0 then tt k9 else itv S (sPl S pj) k9) = itv S (sPl S pj) from funext (fun k9 => if_neg (Nat.not_lt_zero _)), uRow_id hrs]; exact hR
            refine lp_w (ι := Nat × Sx) (fun q9 => lnv S (sPl S pj) - q9.1) (fun q9 H locs ls => (q9.1 ≤ lnv S (sPl S pj) ∧ q9.2 = uRow S (ix (sPl S pj)) (fun k9 => if k9 < q9.1 then tt k9 else itv S (sPl S pj) k9)) ∧ (∃ w9, Hv E A w9 H ∧ Rm E q9.2 M tt w9) ∧ va_S A s.heap H locs ∧ lv_has ls 8 [(0, .ref (mH M)), (4, .int (sPl S pj)), (5, .int (nI (lnv S (sPl S pj)))), (6, .int (nI st)), (7, .int (nI q9.1))]) ?_ (0, uRow S (ix (sPl S pj)) (fun k9 => if k9 < 0 then tt k9 else itv S (sPl S pj) k9)) _ _ _ ⟨⟨Nat.zero_le _, rfl⟩, ⟨_, hI, hR⟩, hS, lv_sub hl [1, 2, 3, 4, 0] rfl⟩
            clear ih
            rintro ⟨t, T9⟩ H locs ls ⟨⟨ht, hT9⟩, ⟨w9, hI, hR⟩, hS, hl⟩ ih
            dsimp only at ht hT9 hR hl
            have hW : Wf T9 := by
              rw [hT9]
              refine hWs.perm hrs (fun k9 => ?_)
              by_cases h9 : k9 < t
              · exact ⟨_, (if_pos h9).trans (rot_read hst hall (by omega))⟩
              · exact ⟨k9, if_neg h9⟩
            have hr8 : vR T9 (sPl S pj) := by rw [hT9]; exact hrs
            refine lv_iload hx hb dX4_rotate_121 (lv_at hl 4 rfl) ?_
            refine lv_iload hx hb dX4_rotate_123 (lv_at hl 2 rfl) ?_
            refine lv_icmp_ge (tgt := 149) hx hb dX4_rotate_125 (by decide) (fun c_24 => ?_) (fun c_24 => ?_)
            · have c_24 : lnv S (sPl S pj) ≤ t := (nI_leI (a := lnv S (sPl S pj)) (b := t) (by omega) (by omega)).mp c_24
              refine lv_aload_n hx hb dX4_rotate_149 rfl (lv_at hl 0 rfl) ?_
              refine lv_iload hx hb dX4_rotate_150 (lv_at hl 3 rfl) ?_
              refine ca_V (As := [.int (nI st)]) (rest := []) (r0 := (RX4, TX4, 11)) (ci := 3) ⟨hx, hb, hml, hown, hts⟩ (cc_X4_yes l E A _ (nI st) hR) (cwV 1 hts gX4_rotate_X4_yes rfl rfl rfl (by decide +kernel) ⟨(Nat.le_of_ble_eq_true rfl), (Nat.le_of_ble_eq_true rfl)⟩) hT hI hA hS rfl hR.1 rfl rfl hl.1 (Nat.le_of_ble_eq_true rfl) dX4_rotate_152 ⟨(Nat.le_of_ble_eq_true rfl), (Nat.le_of_ble_eq_true rfl)⟩ (fun r w_26 H locs hp_25 hI hS => ?_)
              obtain ⟨rfl, hR⟩ := hp_25
              refine W.eq (g2 := F0 m 155 ls [.int (nI st)]) rfl ?_
              exact re_i hx hb hr hlocks hT hA hS hI (PoM.of (by
                                unfold sp_rotate
                                try simp only [pv_nI hpj]
                                rw [if_neg (ho_3), if_neg (ez6), if_neg ((row_kd hWs hrs)), if_neg (c_13)]
                                rw [hsq, hT9, show (fun k9 => if k9 < t then tt k9 else itv S (sPl S pj) k9) = rotF (itv S (sPl S pj)) (lnv S (sPl S pj)) st from funext (fun k9 => ?_)]
                                unfold rotF
                                by_cases h9 : k9 < lnv S (sPl S pj)
                                · rw [if_pos h9, if_pos (by omega), rot_read hst hall h9]
                                · rw [if_neg h9, if_neg (by omega)]) hR) (Nat.le_of_ble_eq_true rfl) (Nat.le_of_ble_eq_true rfl) dX4_rotate_155
            · have c_24 : ¬ lnv S (sPl S pj) ≤ t := fun q => c_24 ((nI_leI (a := lnv S (sPl S pj)) (b := t) (by omega) (by omega)).mpr q)
              refine lv_aload_n hx hb dX4_rotate_128 rfl (lv_at hl 0 rfl) ?_
              refine lv_iload hx hb dX4_rotate_129 (lv_at hl 1 rfl) ?_
              refine lv_iload hx hb dX4_rotate_131 (lv_at hl 4 rfl) ?_
              refine lv_aload_n hx hb dX4_rotate_133 rfl (lv_at hl 0 rfl) ?_
              refine wr_get (ci := 3) (C := RX4) (T := TX4) (N := 11) (v := .ref (mT M)) hx hb hts in_X4 hown hT hI hR.1 rfl 10 (by decide) (hts (.fieldLink RX4 28 "CopyRowsModel" "third" "[I") (by decide +kernel)) rfl dX4_rotate_134 ?_
              refine lv_iload hx hb dX4_rotate_137 (lv_at hl 4 rfl) ?_
              refine wr_ialdN (t := t) (n := 40) (f := tt) hx hb hT hI hR.2.2.2.2.2.2.2.1 (by omega) (by omega) dX4_rotate_139 ?_
              refine ca_V (As := [.int (sPl S pj), .int (nI t), .int (tt t)]) (rest := []) (r0 := (RX4, TX4, 11)) (ci := 3) ⟨hx, hb, hml, hown, hts⟩ (cM_put l E A _ (S := T9) (tt t) hr8 (by have := hW.2.2.2; omega) (by omega) hR) (cwV 3 hts gX4_rotate_X4_put rfl rfl rfl (by decide +kernel) ⟨(Nat.le_of_ble_eq_true rfl), (Nat.le_of_ble_eq_true rfl)⟩) hT hI hA hS rfl hR.1 rfl rfl hl.1 (Nat.le_of_ble_eq_true rfl) dX4_rotate_140 ⟨(Nat.le_of_ble_eq_true rfl), (Nat.le_of_ble_eq_true rfl)⟩ (fun r w_28 H locs hp_27 hI hS => ?_)
              obtain ⟨rfl, hR⟩ := hp_27
              refine W.eq (g2 := F0 m 143 ls []) rfl ?_
              refine lv_iinc (v := nI (t + 1)) (lv' := [(7, .int (nI (t + 1))), (0, .ref (mH M)), (4, .int (sPl S pj)), (5, .int (nI (lnv S (sPl S pj)))), (6, .int (nI st))]) hx hb dX4_rotate_143 hl (k := 4) rfl (nI_1 _) (by decide) rfl (fun ls hl => ?_)
              refine lv_goto (tgt := 121) hx hb dX4_rotate_146 (by decide) ?_
              have e9 : uRow T9 (ix (sPl S pj)) (upd (itv T9 (sPl S pj)) t (tt t)) = uRow S (ix (sPl S pj)) (fun k9 => if k9 < (t + 1) then tt k9 else itv S (sPl S pj) k9) := by rw [hT9, row_step hrs, rot_put]
              rw [e9] at hR
              exact ih (t + 1, uRow S (ix (sPl S pj)) (fun k9 => if k9 < (t + 1) then tt k9 else itv S (sPl S pj) k9)) _ _ _ ⟨⟨by show t + 1 ≤ lnv S (sPl S pj); omega, rfl⟩, ⟨_, hI, hR⟩, hS, lv_sub hl [1, 2, 3, 4, 0] rfl⟩ (by show lnv S (sPl S pj) - (t + 1) < lnv S (sPl S pj) - t; omega)
          · have c_23 : ¬ lnv S (sPl S pj) ≤ t := fun q => c_23 ((nI_leI (a := lnv S (sPl S pj)) (b := t) (by omega) (by omega)).mpr q)
            refine lv_aload_n hx hb dX4_rotate_91 rfl (lv_at hl 0 rfl) ?_
            refine wr_get (ci := 3) (C := RX4) (T := TX4) (N := 11) (v := .ref (mT M)) hx hb hts in_X4 hown hT hI hR.1 rfl 10 (by decide) (hts (.fieldLink RX4 28 "CopyRowsModel" "third" "[I") (by decide +kernel)) rfl dX4_rotate_92 ?_
            refine lv_iload hx hb dX4_rotate_95 (lv_at hl 4 rfl) ?_
            refine lv_iload hx hb dX4_rotate_97 (lv_at hl 3 rfl) ?_
            refine lv_iadd hx hb dX4_rotate_99 ?_
            refine W.eq (g2 := F0 m 100 ls [.int (nI (t + st)), .ref (mT M)]) (by rw [show (nI t : Int32) + nI st = nI (t + st) from nI_add t st]) ?_
            refine lv_iload hx hb dX4_rotate_100 (lv_at hl 2 rfl) ?_
            refine lv_irem hx hb dX4_rotate_102 (nI_ne0 h0 (by omega)) ?_
            refine W.eq (g2 := F0 m 103 ls [.int (nI ((t + st) % (lnv S (sPl S pj)))), .ref (mT M)]) (by rw [pk_rem (by omega) h0 (by omega)]) ?_
            have hmd := Nat.mod_lt (t + st) h0
            refine lv_aload_n hx hb dX4_rotate_103 rfl (lv_at hl 0 rfl) ?_
            refine lv_iload hx hb dX4_rotate_104 (lv_at hl 1 rfl) ?_
            refine lv_iload hx hb dX4_rotate_106 (lv_at hl 4 rfl) ?_
            refine ca_V (As := [.int (sPl S pj), .int (nI t)]) (rest := [.int (nI ((t + st) % (lnv S (sPl S pj)))), .ref (mT M)]) (r0 := (RX4, TX4, 11)) (ci := 3) ⟨hx, hb, hml, hown, hts⟩ (cM_get l E A _ hr6 (by have := hW.2.2.2; omega) (by omega) hR) (cwV 2 hts gX4_rotate_X4_get rfl rfl rfl (by decide +kernel) ⟨(Nat.le_of_ble_eq_true rfl), (Nat.le_of_ble_eq_true rfl)⟩) hT hI hA hS rfl hR.1 rfl rfl hl.1 (Nat.le_of_ble_eq_true rfl) dX4_rotate_108 ⟨(Nat.le_of_ble_eq_true rfl), (Nat.le_of_ble_eq_true rfl)⟩ (fun r w_30 H locs hp_29 hI hS => ?_)
            obtain ⟨rfl, rfl⟩ := hp_29
            refine W.eq (g2 := F0 m 111 ls [.int (itv S (sPl S pj) t), .int (nI ((t + st) % (lnv S (sPl S pj)))), .ref (mT M)]) rfl ?_
            refine wr_iastN (t := (t + st) % (lnv S (sPl S pj))) (n := 40) (f := tt) hx hb hT hI hS hR.2.2.2.2.2.2.2.1 (by omega) (by omega) dX4_rotate_111 (fun H locs hI hS => ?_)
            have hR := hR.th (upd tt ((t + st) % (lnv S (sPl S pj))) (itv S (sPl S pj) t))
            refine lv_iinc (v := nI (t + 1)) (lv' := [(7, .int (nI (t + 1))), (0, .ref (mH M)), (4, .int (sPl S pj)), (5, .int (nI (lnv S (sPl S pj)))), (6, .int (nI st))]) hx hb dX4_rotate_112 hl (k := 4) rfl (nI_1 _) (by decide) rfl (fun ls hl => ?_)
            refine lv_goto (tgt := 84) hx hb dX4_rotate_115 (by decide) ?_
            exact ih (t + 1, upd tt ((t + st) % (lnv S (sPl S pj))) (itv S (sPl S pj) t)) _ _ _ ⟨⟨by show t + 1 ≤ lnv S (sPl S pj); omega, rot_fill hst (by omega) hall⟩, ⟨_, hI, hR⟩, hS, lv_sub hl [1, 2, 3, 4, 0] rfl⟩ (by show lnv S (sPl S pj) - (t + 1) < lnv S (sPl S pj) - t; omega)
      · have c_13 : lnv S (sPl S pj) = 0 := (nI_eq (a := lnv S (sPl S pj)) (b := 0) (by omega) (by omega)).mp c_13
        refine lv_bipush (v := 6) hx hb dX4_rotate_28 (by decide) ?_
        refine lv_istore_n (lv' := [(3, .int 6), (0, .ref (mH M)), (1, .int (nI pj)), (2, .int b)]) hx hb dX4_rotate_30 rfl hl (by decide) rfl (fun ls hl => ?_)
        refine lv_iload_n hx hb dX4_rotate_31 rfl (lv_at hl 0 rfl) ?_
        refine lv_if_eq (tgt := 41) hx hb dX4_rotate_32 (by decide) (fun c => absurd c (by decide)) (fun _ => ?_)
        refine lv_aload_n hx hb dX4_rotate_35 rfl (lv_at hl 1 rfl) ?_
        refine lv_iload_n hx hb dX4_rotate_36 rfl (lv_at hl 0 rfl) ?_
        refine ca_V (As := [.int 6]) (rest := []) (r0 := (RX4, TX4, 11)) (ci := 3) ⟨hx, hb, hml, hown, hts⟩ (cc_X4_no l E A _ 6 hR) (cwV 1 hts gX4_rotate_X4_no rfl rfl rfl (by decide +kernel) ⟨(Nat.le_of_ble_eq_true rfl), (Nat.le_of_ble_eq_true rfl)⟩) hT hI hA hS rfl hR.1 rfl rfl hl.1 (Nat.le_of_ble_eq_true rfl) dX4_rotate_37 ⟨(Nat.le_of_ble_eq_true rfl), (Nat.le_of_ble_eq_true rfl)⟩ (fun r w_32 H locs hp_31 hI hS => ?_)
        obtain ⟨rfl, hR⟩ := hp_31
        refine W.eq (g2 := F0 m 40 ls [.int 0]) rfl ?_
        exact re_i hx hb hr hlocks hT hA hS hI (PoM.of (by
                    unfold sp_rotate
                    try simp only [pv_nI hpj]
                    rw [if_neg (ho_3), if_neg (ez6), if_neg ((row_kd hW hr6)), if_pos (c_13)]
                    try rfl) hR) (Nat.le_of_ble_eq_true rfl) (Nat.le_of_ble_eq_true rfl) dX4_rotate_40
  · have ho_3 : oP p := Classical.not_not.mp ho_3
    refine W.eq (g2 := F0 m 4 ls [.int 0]) rfl ?_
    refine lv_if_ne (tgt := 10) hx hb dX4_rotate_4 (by decide) (fun c => absurd c (by decide)) (fun _ => ?_)
    refine lv_ldc (v := -2000000001) hx hb hown (hts (.constant RX4 54 (-2000000001)) (by decide +kernel)) dX4_rotate_7 ?_
    exact re_i hx hb hr hlocks hT hA hS hI (PoM.of (by
            unfold sp_rotate
            rw [if_pos (ho_3)]
            try rfl) hR) (Nat.le_of_ble_eq_true rfl) (Nat.le_of_ble_eq_true rfl) dX4_rotate_9
