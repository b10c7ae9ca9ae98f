/-! two worlds side by side: the class's and the reference's -/
theorem Hv.part {E : En} {A A1 : Nat → Prop} {w w1 : Wd} {H : Heap} (h : Hv E A w H) (hw1 : ∀ (a : Nat) (x : va_E), w1 a = some x → w a = some x) (hA1 : ∀ (a : Nat) (x : va_E), w1 a = some x → A1 a) : Hv E A1 w1 H := by
  obtain ⟨ws, hP, hD, hw⟩ := h
  have hpw : ws.Pairwise (fun p q => p.1 ≠ q.1) := by
    rw [List.pairwise_iff_getElem]
    intro i j hi hj hij e
    have := hD.1 i j ws[i] ws[j] (List.getElem?_eq_getElem hi) (List.getElem?_eq_getElem hj) e
    omega
  let f : Nat × va_E → Bool := fun q => @decide (w1 q.1 = some q.2) (Classical.propDecidable _)
  have hf : ∀ q : Nat × va_E, f q = true ↔ w1 q.1 = some q.2 := fun q => @decide_eq_true_iff _ (Classical.propDecidable _)
  have hpw2 : (ws.filter f).Pairwise (fun p q => p.1 ≠ q.1) := hpw.sublist (List.filter_sublist)
  have hin : ∀ (k : Nat) (q : Nat × va_E), (ws.filter f)[k]? = some q → q ∈ ws ∧ w1 q.1 = some q.2 := by
    intro k q hk
    have hm := List.mem_of_getElem? hk
    rw [List.mem_filter] at hm
    exact ⟨hm.1, (hf q).mp hm.2⟩
  refine ⟨ws.filter f, fun k q hk => ?_, ⟨fun i j p q hi hj e => ?_, fun k q hk => ?_⟩, fun a x hx => ?_⟩
  · obtain ⟨h1, h2⟩ := hin k q hk
    obtain ⟨k2, hk2⟩ := List.mem_iff_getElem?.mp h1
    exact hP k2 q hk2
  · obtain ⟨hi1, hi2⟩ := List.getElem?_eq_some_iff.mp hi
    obtain ⟨hj1, hj2⟩ := List.getElem?_eq_some_iff.mp hj
    rw [List.pairwise_iff_getElem] at hpw2
    rcases Nat.lt_trichotomy i j with g | g | g
    · exact absurd (by rw [hi2, hj2]; exact e) (hpw2 i j hi1 hj1 g)
    · exact g
    · exact absurd (by rw [hi2, hj2]; exact e.symm) (hpw2 j i hj1 hi1 g)
  · exact hA1 q.1 q.2 (hin k q hk).2
  · obtain ⟨k, hk⟩ := hw a x (hw1 a x hx)
    have hm : (a, x) ∈ ws.filter f := List.mem_filter.mpr ⟨List.mem_of_getElem? hk, (hf (a, x)).mpr hx⟩
    exact List.mem_iff_getElem?.mp hm
theorem Hv.kept {E : En} {A : Nat → Prop} {w : Wd} {H H1 : Heap} (h : Hv E A w H) (hq : ∀ q : Nat, A q → q < H.size → H1[q]? = H[q]?) : Hv E A w H1 := by
  obtain ⟨ws, hP, hD, hw⟩ := h
  exact ⟨ws, hP.kept (fun k q hk => hq q.1 (hD.2 k q hk) (hP k q hk).lt), hD, hw⟩
theorem Hv.nil {E : En} {A : Nat → Prop} {H : Heap} : Hv E A (fun _ => none) H := ⟨[], fun k q h => by simp at h, ⟨fun i j p q h => by simp at h, fun k q h => by simp at h⟩, fun a x h => by cases h⟩
/-- the class's addresses: what came since the start and isn't the reference's -/
def Ac (M : Md) (n0 : Nat) (q : Nat) : Prop := n0 ≤ q ∧ ¬ mAm M q
def wR (M : Md) (w : Wd) : Wd := fun a => if mAm M a then w a else none
theorem wR_in {M : Md} {w : Wd} {a : Nat} (h : mAm M a) : wR M w a = w a := if_pos h
theorem wR_sub {M : Md} {w : Wd} (a : Nat) (x : va_E) (h : wR M w a = some x) : w a = some x ∧ mAm M a := by
  unfold wR at h
  by_cases q : mAm M a
  · rw [if_pos q] at h; exact ⟨h, q⟩
  · rw [if_neg q] at h; cases h
theorem Rm.only {E : En} {S : Sx} {M : Md} {t : Nat → Int32} {w : Wd} (h : Rm E S M t w) : Rm E S M t (wR M w) := by
  obtain ⟨a1, a2, a3, a4, a5, a6, a7, a8, ap⟩ := h
  refine ⟨?_, ?_, ?_, ?_, ?_, ?_, ?_, ?_, ap⟩
  · rw [wR_in (Or.inl rfl)]; exact a1
  · rw [wR_in (Or.inr (Or.inl rfl))]; exact a2
  · rw [wR_in (Or.inr (Or.inr (Or.inl rfl)))]; exact a3
  · rw [wR_in (Or.inr (Or.inr (Or.inr (Or.inl rfl))))]; exact a4
  · rw [wR_in (Or.inr (Or.inr (Or.inr (Or.inr (Or.inl rfl)))))]; exact a5
  · rw [wR_in (Or.inr (Or.inr (Or.inr (Or.inr (Or.inr (Or.inl rfl))))))]; exact a6
  · rw [wR_in (Or.inr (Or.inr (Or.inr (Or.inr (Or.inr (Or.inr (Or.inl rfl)))))))]; exact a7
  · rw [wR_in (Or.inr (Or.inr (Or.inr (Or.inr (Or.inr (Or.inr (Or.inr rfl)))))))]; exact a8
theorem Rm.cell {E : En} {S : Sx} {M : Md} {t : Nat → Int32} {w : Wd} (h : Rm E S M t w) {a : Nat} (ha : mAm M a) : ∃ x, w a = some x := by
  obtain ⟨a1, a2, a3, a4, a5, a6, a7, a8, ap⟩ := h
  rcases ha with rfl | rfl | rfl | rfl | rfl | rfl | rfl | rfl
  · exact ⟨_, a1⟩
  · exact ⟨_, a2⟩
  · exact ⟨_, a3⟩
  · exact ⟨_, a4⟩
  · exact ⟨_, a5⟩
  · exact ⟨_, a6⟩
  · exact ⟨_, a7⟩
  · exact ⟨_, a8⟩
/-- the class stands at S1, the reference at S2 -/
def LI (E : En) (n0 : Nat) (S1 S2 : Sx) (x y : Nat) (H : Heap) : Prop := ∃ (D : Ad) (M : Md) (tt : Nat → Int32) (wc wm : Wd), aH D = x ∧ mH M = y ∧ Rp E S1 D wc ∧ Rm E S2 M tt wm ∧ Hv E (Ac M n0) wc H ∧ Hv E (mAm M) wm H ∧ ∀ a, mAm M a → n0 ≤ a ∧ a < H.size
section LW
variable {p : Program} {l : Launch} {e : Env} {R : Room} {s : State} {m : MethodId} {args : Array Value} {below : List Frame} {meth : Method} {c : Code} {H : Heap} {locs : List Loc} {cells slots : Nat} {Q : State → Prop}
variable {cc : ByteArray} {pc : Nat} {ls : Array Slot} {rest st0 : List Value} {E : En} {A A1 : Nat → Prop} {w : Wd} {H0 : Heap}
theorem ca_go1 {Post : Option Value → Wd → Prop} {mc ms : Nat} {av : Array Value} (hr : va_Run p l e R s m args below meth c H locs cells slots mc ms (F0 m pc ls st0) rest (Qg Post E A1 av) A1) (hsub : ∀ q, A1 q → A q) (hS : va_S A H0 H locs)
    (kk : ∀ (r : Option Value) (w' : Wd) (H1 : Heap) (locs1 : List Loc), Post r w' → Hv E A1 w' H1 → H.size ≤ H1.size → (∀ q : Nat, q < H.size → ¬ A1 q → H1[q]? = H[q]?) → va_S A H0 H1 locs1 → W p l e R s m args below meth c H1 locs1 (cells + mc) (slots + ms) Q (F0 m (pc + 3) ls (r.toList ++ rest))) : W p l e R s m args below meth c H locs cells slots Q (F0 m pc ls st0) := by
  intro T hT X
  obtain ⟨v, st₀, t, T', L, h0, X', hL, e1, e2, ⟨⟨r, w', hv, hp, -, hH, -⟩, hz, hk⟩, st⟩ := hr T hT X
  cases hv
  rw [h0] at hz hk
  obtain ⟨t2, a1, b1⟩ := kk v w' T'.heap (locs ++ L) hp (by rw [e1]; exact hH) (by rw [e1]; exact hz) (fun q h1 h2 => by rw [e1]; exact hk q h1 h2)
    ⟨Nat.le_trans hS.1 (by rw [e1]; exact hz), fun q h1 h2 => by rw [e1, hk q (Nat.lt_of_lt_of_le h1 hS.1) (fun g => h2 (hsub q g))]; exact hS.2.1 q h1 h2, fun q hq => by
      rcases List.mem_append.mp hq with h | h
      · exact hS.2.2 q h
      · exact hsub _ (hL q h)⟩ T' rfl X'
  exact ⟨t2, st t2 a1, b1⟩
variable {y : MethodName} {bytes : ByteArray} {maxL nL mc ms n index : Nat} {ret : Option FieldType} {ws : List Cond} {rm : Room} {Ts : List Cond} {own C : String} {As : List Value} {Post : Option Value → Wd → Prop}
theorem ca_V1 {b ci : Nat} {fs : List Value} {r0 : vw_C} (S : CallFix p m c cc nL s args Ts own) (hM : Ct l y ws rm E A1 w (.ref b :: As) Post mc ms) (cw : CallW R s args own r0.1 index y bytes maxL ret ws rm mc ms n) (hT : Tf E s) (hI : Hv E A1 w H) (hA1 : ∀ q : Nat, H.size ≤ q → A1 q) (hsub : ∀ q, A1 q → A q) (hS : va_S A H0 H locs) (hc : vwCl[ci]? = some r0) (he : w b = some (.inr (ci, fs))) (hst : st0 = As.reverse ++ .ref b :: rest) (hn : As.length = n) (hsize : ls.size = nL) (hW : (rest.map fun v => v.category).sum ≤ 8) (hdg : decode cc pc = .ok (.invokevirtual index, 3)) (hf : cells + mc ≤ R.cells ∧ slots + ms ≤ R.slots)
    (kk : ∀ (r : Option Value) (w' : Wd) (H1 : Heap) (locs1 : List Loc), Post r w' → Hv E A1 w' H1 → H.size ≤ H1.size → (∀ q : Nat, q < H.size → ¬ A1 q → H1[q]? = H[q]?) → va_S A H0 H1 locs1 → W p l e R s m args below meth c H1 locs1 (cells + mc) (slots + ms) Q (F0 m (pc + 3) ls (r.toList ++ rest))) : W p l e R s m args below meth c H locs cells slots Q (F0 m pc ls st0) :=
  ca_go1 (va_runV S hM cw ⟨Iv.blind, wr_recv hT hI hc he, fun U hU hW => ⟨rfl, hT.warm hW, by rw [hU]; exact hI, fun q h => hA1 q (by rw [← hU]; exact h)⟩⟩ rfl hn hsize hst (lv_room hW) hdg hf) hsub hS kk
/-- a call of the class -/
theorem lc_C {S1 S2 : Sx} {o : Int32 × Sx} {x z : Nat} (S : CallFix p m c cc nL s args Ts own) (hM : ∀ (A : Nat → Prop) (w : Wd) (D : Ad), Rp E S1 D w → Ct l y ws rm E A w (.ref (aH D) :: As) (PoC E D o) mc ms) (cw : CallW R s args own RX3 index y bytes maxL ret ws rm mc ms n) (hT : Tf E s) (hI : LI E s.heap.size S1 S2 x z H) (hS : va_S (fun q : Nat => s.heap.size ≤ q) s.heap H locs) (hst : st0 = As.reverse ++ .ref x :: rest) (hn : As.length = n) (hsize : ls.size = nL) (hW : (rest.map fun v => v.category).sum ≤ 8) (hdg : decode cc pc = .ok (.invokevirtual index, 3)) (hf : cells + mc ≤ R.cells ∧ slots + ms ≤ R.slots)
    (kk : ∀ (H1 : Heap) (locs1 : List Loc), LI E s.heap.size o.2 S2 x z H1 → va_S (fun q : Nat => s.heap.size ≤ q) s.heap H1 locs1 → W p l e R s m args below meth c H1 locs1 (cells + mc) (slots + ms) Q (F0 m (pc + 3) ls (.int o.1 :: rest))) : W p l e R s m args below meth c H locs cells slots Q (F0 m pc ls st0) := by
  obtain ⟨D, M, tt, wc, wm, rfl, rfl, hP, hR, hIc, hIm, hlt⟩ := hI
  refine ca_V1 (r0 := (RX3, TX3, 2)) (ci := 2) S (hM (Ac M s.heap.size) wc D hP) cw hT hIc (fun q h => ⟨Nat.le_trans hS.1 h, fun g => absurd (hlt q g).2 (Nat.not_lt.mpr h)⟩) (fun q h => h.1) hS rfl hP.1 hst hn hsize hW hdg hf (fun r w' H1 locs1 hp hI1 hz hk hS1 => ?_)
  obtain ⟨rfl, D', hD', hP'⟩ := hp
  refine kk H1 locs1 ⟨D', M, tt, w', wm, hD', rfl, hP', hR, hI1, hIm.kept (fun q h1 h2 => hk q h2 (fun g => g.2 h1)), fun a h => ⟨(hlt a h).1, Nat.lt_of_lt_of_le (hlt a h).2 hz⟩⟩ hS1
/-- a call of the reference -/
theorem lc_M {S1 S2 : Sx} {o : Int32 × Sx} {x z : Nat} (S : CallFix p m c cc nL s args Ts own) (hM : ∀ (A : Nat → Prop) (w : Wd) (M : Md) (tt : Nat → Int32), Rm E S2 M tt w → Ct l y ws rm E A w (.ref (mH M) :: As) (PoM E M o) mc ms) (cw : CallW R s args own RX4 index y bytes maxL ret ws rm mc ms n) (hT : Tf E s) (hI : LI E s.heap.size S1 S2 x z H) (hS : va_S (fun q : Nat => s.heap.size ≤ q) s.heap H locs) (hst : st0 = As.reverse ++ .ref z :: rest) (hn : As.length = n) (hsize : ls.size = nL) (hW : (rest.map fun v => v.category).sum ≤ 8) (hdg : decode cc pc = .ok (.invokevirtual index, 3)) (hf : cells + mc ≤ R.cells ∧ slots + ms ≤ R.slots)
    (kk : ∀ (H1 : Heap) (locs1 : List Loc), LI E s.heap.size S1 o.2 x z H1 → va_S (fun q : Nat => s.heap.size ≤ q) s.heap H1 locs1 → W p l e R s m args below meth c H1 locs1 (cells + mc) (slots + ms) Q (F0 m (pc + 3) ls (.int o.1 :: rest))) : W p l e R s m args below meth c H locs cells slots Q (F0 m pc ls st0) := by
  obtain ⟨D, M, tt, wc, wm, rfl, rfl, hP, hR, hIc, hIm, hlt⟩ := hI
  have hIm1 : Hv E (fun q => mAm M q ∨ H.size ≤ q) (wR M wm) H := hIm.part (fun a x h => (wR_sub a x h).1) (fun a x h => Or.inl (wR_sub a x h).2)
  refine ca_V1 (A1 := fun q => mAm M q ∨ H.size ≤ q) (r0 := (RX4, TX4, 11)) (ci := 3) S (hM (fun q => mAm M q ∨ H.size ≤ q) (wR M wm) M tt hR.only) cw hT hIm1 (fun q h => Or.inr h) (fun q h => h.elim (fun g => (hlt q g).1) (fun g => Nat.le_trans hS.1 g)) hS rfl hR.only.1 hst hn hsize hW hdg hf (fun r w' H1 locs1 hp hI1 hz hk hS1 => ?_)
  obtain ⟨rfl, t', hR'⟩ := hp
  refine kk H1 locs1 ⟨D, M, t', wc, wR M w', rfl, rfl, hP, hR'.only, hIc.kept (fun q h1 h2 => hk q h2 (fun g => g.elim h1.2 (fun g => absurd h2 (Nat.not_lt.mpr g)))), hI1.part (fun a x h => (wR_sub a x h).1) (fun a x h => (wR_sub a x h).2), fun a h => ⟨(hlt a h).1, Nat.lt_of_lt_of_le (hlt a h).2 hz⟩⟩ hS1
/-- a number of the script -/
theorem sc_rd {b L i j : Nat} {xs : Nat → Int32} {lv : List (Nat × Value)} (hx : p.tables.exec = Jvm.exec) (hb : c.code = cc) (hX : va_X b L xs s H0) (hbl : b < H0.size) (hbA : ¬ A b) (hS : va_S A H0 H locs) (hl : lv_has ls 4 lv) (h0 : lv[0]? = some (0, .ref b)) (h3 : lv[3]? = some (3, .int (nI i))) (hi : i + j < L) (hL : L ≤ 3072) {v : Int} (hv : Int32.ofInt v = nI j) (d0 : decode cc pc = .ok (.aload_n 0, 1)) (d1 : decode cc (pc + 1) = .ok (.iload_n 3, 1)) (d2 : decode cc (pc + 1 + 1) = .ok (.iconst v, 1)) (d3 : decode cc (pc + 1 + 1 + 1) = .ok (.iadd, 1)) (d4 : decode cc (pc + 1 + 1 + 1 + 1) = .ok (.iaload, 1))
    (kk : W p l e R s m args below meth c H locs cells slots Q (F0 m (pc + 5) ls (.int (xs (i + j)) :: rest))) : W p l e R s m args below meth c H locs cells slots Q (F0 m pc ls rest) := by
  refine lv_aload_n hx hb d0 rfl (lv_at hl 0 h0) ?_
  refine lv_iload_n hx hb d1 rfl (lv_at hl 3 h3) ?_
  refine lv_iconst hx hb d2 hv ?_
  refine lv_iadd hx hb d3 ?_
  rw [nI_add]
  refine va_sld hx hb hX hbl hbA hS (vp_in_nI hi (by omega)) d4 ?_
  rw [nI_clamp (by omega)]
  exact kk
end LW
