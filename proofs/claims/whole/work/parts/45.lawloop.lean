theorem len6 {L i : Nat} (hL : L ≤ 3072) (hi : i ≤ 3072) : nI L - 6 < nI i ↔ L < i + 6 := by
  rw [Int32.lt_iff_toInt_lt, nI_toInt (by omega), Int32.toInt_sub, nI_toInt (by omega), show (6 : Int32).toInt = 6 by decide]
  rw [show ((L : Int) - 6).bmod (2 ^ 32) = (L : Int) - 6 from Int.bmod_eq_of_le (by omega) (by omega)]
  omega
set_option maxHeartbeats 4000000 in
set_option maxRecDepth 100000 in
theorem law_loop {p : Program} {l : Launch} {e : Env} {s : State} {m : MethodId} {below : List Frame} {meth : Method} {c : Code} {b L : Nat} {xs : Nat → Int32} {E : En} (hL : L ≤ 3072) (C0 : lw_At p s m meth c b L xs) (hT : Tf E s) : ∀ (n k : Nat) (S : Sx) (x z : Nat) (H : Heap) (locs : List Loc) (ls : Array Slot), 6 * k ≤ L → L + 1 ≤ 6 * k + n → Wf S → (sNr S ≤ k ∧ sNt S ≤ k ∧ sNl S ≤ k) → LI E s.heap.size S S x z H → va_S (fun q : Nat => s.heap.size ≤ q) s.heap H locs → lv_has ls 4 [(0, .ref b), (1, .ref x), (2, .ref z), (3, .int (nI (6 * k)))] → W p l e room_1 s m #[Value.ref b] below meth c H locs (10 + 3 * k) (22957 + 44 * k) (lw_Z below #[Value.ref b] s) (F0 m 18 ls []) := by
  have C1 := C0
  obtain ⟨hx, hb, hr, hml, hown, hts0, hX, hbl, hlocks, hgv⟩ := C0
  have hts : ∀ w ∈ wsL_law, w.before #[Value.ref b] s = true := fun w h => hts0 w (wsL_law_in w h)
  have hown : s.vm.findClass RL = some m.cls := hown
  have hb : c.code = cL_law := hb
  have hbA : ¬ (fun q : Nat => s.heap.size ≤ q) b := Nat.not_le.mpr hbl
  intro n
  induction n with
  | zero => intro k S x z H locs ls h1 h2; exact absurd h2 (by omega)
  | succ n ih =>
    intro k S x z H locs ls hk1 hk2 hW hct hI hS hl
    refine lv_iload_n hx hb dL_law_18 rfl (lv_at hl 3 rfl) ?_
    refine lv_aload_n hx hb dL_law_19 rfl (lv_at hl 0 rfl) ?_
    refine va_slen hx hb hX hbl hbA hS dL_law_20 ?_
    refine lv_bipush (v := 6) hx hb dL_law_21 (by decide) ?_
    refine lv_isub hx hb dL_law_23 ?_
    refine lv_icmp_gt (tgt := 1039) hx hb dL_law_24 (by decide) (fun c0 => ?_) (fun c0 => ?_)
    · refine lv_iconst (v := 1) hx hb dL_law_1039 (by decide) ?_
      refine va_forget (fun q hq => hS.2.2 q hq) ?_
      refine W.widen (k := 600000) (n := 7302250) (by omega) (by omega) ?_
      exact lw_ret hx hb hr hlocks dL_law_1040
    · have hlt : ¬ L < 6 * k + 6 := fun q => c0 ((len6 hL (by omega)).mpr q)
      have hb9 : sNr S < 512 ∧ sNt S < 512 ∧ sNl S < 512 := by omega
      have next : ∀ (S' : Sx) (H1 : Heap) (locs1 : List Loc), Gd S S' → LI E s.heap.size S' S' x z H1 → va_S (fun q : Nat => s.heap.size ≤ q) s.heap H1 locs1 → W p l e room_1 s m #[Value.ref b] below meth c H1 locs1 (10 + 3 * (k + 1)) (22957 + 44 * (k + 1)) (lw_Z below #[Value.ref b] s) (F0 m 1033 ls []) := by
        intro S' H1 locs1 hG hI hS
        refine lv_iinc (v := nI (6 * (k + 1))) (lv' := [(3, .int (nI (6 * (k + 1)))), (0, .ref b), (1, .ref x), (2, .ref z)]) hx hb dL_law_1033 hl (k := 3) rfl (nI_add (6 * k) 6) (by decide) rfl (fun ls hl => ?_)
        refine lv_goto (tgt := 18) hx hb dL_law_1036 (by decide) ?_
        exact ih (k + 1) S' x z H1 locs1 ls (by omega) (by omega) hG.1 ⟨by have := hG.2.1; omega, by have := hG.2.2.1; omega, by have := hG.2.2.2; omega⟩ hI hS (lv_sub hl [1, 2, 3, 0] rfl)
      refine lv_aload_n hx hb dL_law_27 rfl (lv_at hl 0 rfl) ?_
      refine lv_iload_n hx hb dL_law_28 rfl (lv_at hl 3 rfl) ?_
      refine va_sld hx hb hX hbl hbA hS (vp_in_nI (show 6 * k < L by omega) (by omega)) dL_law_29 ?_
      refine lv_topi (fun v9 _ => ?_)
      refine lv_bipush (v := 31) hx hb dL_law_30 (by decide) ?_
      refine lv_iand hx hb dL_law_32 ?_
      obtain ⟨j, hj, ej⟩ := pk_andE v9 (m := 31) 5 (by decide)
      rw [ej]
      by_cases h24 : 24 < j
      · refine lv_tableOut (tgt := 1033) hx hb dL_law_33 (Or.inr (by rw [nI_toInt (by omega)]; omega)) (by decide) ?_
        refine W.widen (k := 10 + 3 * (k + 1)) (n := 22957 + 44 * (k + 1)) (by omega) (by omega) ?_
        exact next S H locs (Gd.id hW) hI hS
      · rcases (show j = 0 ∨ j = 1 ∨ j = 2 ∨ j = 3 ∨ j = 4 ∨ j = 5 ∨ j = 6 ∨ j = 7 ∨ j = 8 ∨ j = 9 ∨ j = 10 ∨ j = 11 ∨ j = 12 ∨ j = 13 ∨ j = 14 ∨ j = 15 ∨ j = 16 ∨ j = 17 ∨ j = 18 ∨ j = 19 ∨ j = 20 ∨ j = 21 ∨ j = 22 ∨ j = 23 ∨ j = 24 by omega) with rfl | rfl | rfl | rfl | rfl | rfl | rfl | rfl | rfl | rfl | rfl | rfl | rfl | rfl | rfl | rfl | rfl | rfl | rfl | rfl | rfl | rfl | rfl | rfl | rfl
        · exact lv_tableIn (tgt := 148) (off := 115) hx hb dL_law_33 (by decide) (by decide) rfl (by decide) (lwc_0 hL C1 hT hW hb9 (by omega) (by omega) hI hS hl next)
        · exact lv_tableIn (tgt := 161) (off := 128) hx hb dL_law_33 (by decide) (by decide) rfl (by decide) (lwc_1 hL C1 hT hW hb9 (by omega) (by omega) hI hS hl next)
        · exact lv_tableIn (tgt := 204) (off := 171) hx hb dL_law_33 (by decide) (by decide) rfl (by decide) (lwc_2 hL C1 hT hW hb9 (by omega) (by omega) hI hS hl next)
        · exact lv_tableIn (tgt := 237) (off := 204) hx hb dL_law_33 (by decide) (by decide) rfl (by decide) (lwc_3 hL C1 hT hW hb9 (by omega) (by omega) hI hS hl next)
        · exact lv_tableIn (tgt := 260) (off := 227) hx hb dL_law_33 (by decide) (by decide) rfl (by decide) (lwc_4 hL C1 hT hW hb9 (by omega) (by omega) hI hS hl next)
        · exact lv_tableIn (tgt := 283) (off := 250) hx hb dL_law_33 (by decide) (by decide) rfl (by decide) (lwc_5 hL C1 hT hW hb9 (by omega) (by omega) hI hS hl next)
        · exact lv_tableIn (tgt := 306) (off := 273) hx hb dL_law_33 (by decide) (by decide) rfl (by decide) (lwc_6 hL C1 hT hW hb9 (by omega) (by omega) hI hS hl next)
        · exact lv_tableIn (tgt := 329) (off := 296) hx hb dL_law_33 (by decide) (by decide) rfl (by decide) (lwc_7 hL C1 hT hW hb9 (by omega) (by omega) hI hS hl next)
        · exact lv_tableIn (tgt := 372) (off := 339) hx hb dL_law_33 (by decide) (by decide) rfl (by decide) (lwc_8 hL C1 hT hW hb9 (by omega) (by omega) hI hS hl next)
        · exact lv_tableIn (tgt := 425) (off := 392) hx hb dL_law_33 (by decide) (by decide) rfl (by decide) (lwc_9 hL C1 hT hW hb9 (by omega) (by omega) hI hS hl next)
        · exact lv_tableIn (tgt := 468) (off := 435) hx hb dL_law_33 (by decide) (by decide) rfl (by decide) (lwc_10 hL C1 hT hW hb9 (by omega) (by omega) hI hS hl next)
        · exact lv_tableIn (tgt := 501) (off := 468) hx hb dL_law_33 (by decide) (by decide) rfl (by decide) (lwc_11 hL C1 hT hW hb9 (by omega) (by omega) hI hS hl next)
        · exact lv_tableIn (tgt := 534) (off := 501) hx hb dL_law_33 (by decide) (by decide) rfl (by decide) (lwc_12 hL C1 hT hW hb9 (by omega) (by omega) hI hS hl next)
        · exact lv_tableIn (tgt := 597) (off := 564) hx hb dL_law_33 (by decide) (by decide) rfl (by decide) (lwc_13 hL C1 hT hW hb9 (by omega) (by omega) hI hS hl next)
        · exact lv_tableIn (tgt := 660) (off := 627) hx hb dL_law_33 (by decide) (by decide) rfl (by decide) (lwc_14 hL C1 hT hW hb9 (by omega) (by omega) hI hS hl next)
        · exact lv_tableIn (tgt := 693) (off := 660) hx hb dL_law_33 (by decide) (by decide) rfl (by decide) (lwc_15 hL C1 hT hW hb9 (by omega) (by omega) hI hS hl next)
        · exact lv_tableIn (tgt := 746) (off := 713) hx hb dL_law_33 (by decide) (by decide) rfl (by decide) (lwc_16 hL C1 hT hW hb9 (by omega) (by omega) hI hS hl next)
        · exact lv_tableIn (tgt := 789) (off := 756) hx hb dL_law_33 (by decide) (by decide) rfl (by decide) (lwc_17 hL C1 hT hW hb9 (by omega) (by omega) hI hS hl next)
        · exact lv_tableIn (tgt := 832) (off := 799) hx hb dL_law_33 (by decide) (by decide) rfl (by decide) (lwc_18 hL C1 hT hW hb9 (by omega) (by omega) hI hS hl next)
        · exact lv_tableIn (tgt := 865) (off := 832) hx hb dL_law_33 (by decide) (by decide) rfl (by decide) (lwc_19 hL C1 hT hW hb9 (by omega) (by omega) hI hS hl next)
        · exact lv_tableIn (tgt := 888) (off := 855) hx hb dL_law_33 (by decide) (by decide) rfl (by decide) (lwc_20 hL C1 hT hW hb9 (by omega) (by omega) hI hS hl next)
        · exact lv_tableIn (tgt := 911) (off := 878) hx hb dL_law_33 (by decide) (by decide) rfl (by decide) (lwc_21 hL C1 hT hW hb9 (by omega) (by omega) hI hS hl next)
        · exact lv_tableIn (tgt := 944) (off := 911) hx hb dL_law_33 (by decide) (by decide) rfl (by decide) (lwc_22 hL C1 hT hW hb9 (by omega) (by omega) hI hS hl next)
        · exact lv_tableIn (tgt := 977) (off := 944) hx hb dL_law_33 (by decide) (by decide) rfl (by decide) (lwc_23 hL C1 hT hW hb9 (by omega) (by omega) hI hS hl next)
        · exact lv_tableIn (tgt := 1010) (off := 977) hx hb dL_law_33 (by decide) (by decide) rfl (by decide) (lwc_24 hL C1 hT hW hb9 (by omega) (by omega) hI hS hl next)
