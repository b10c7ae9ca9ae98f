/-! every call keeps the state well formed, and makes at most one thing of each sort -/
def Gd (S S' : Sx) : Prop := Wf S' ∧ sNr S' ≤ sNr S + 1 ∧ sNt S' ≤ sNt S + 1 ∧ sNl S' ≤ sNl S + 1
theorem Gd.id {S : Sx} (hW : Wf S) : Gd S S := ⟨hW, Nat.le_succ _, Nat.le_succ _, Nat.le_succ _⟩
theorem Gd.cod {S T : Sx} (h : Gd S T) (x : Int32) : Gd S (uCod T x) := h
theorem Gd.row {S : Sx} {r : Nat} {f : Nat → Int32} (h : Wf (uRow S r f)) (x : Int32) : Gd S (uCod (uRow S r f) x) := ⟨h, Nat.le_succ _, Nat.le_succ _, Nat.le_succ _⟩
theorem Gd.pl {S : Sx} (hW : Wf S) {v : Int32} (hv : v = -1 ∨ vO S v) (j : Nat) : Gd S (uPl S j v) := ⟨hW.upl hv j, Nat.le_succ _, Nat.le_succ _, Nat.le_succ _⟩
theorem Wf.pv {S : Sx} (hW : Wf S) (p : Int32) : pv S p = -1 ∨ vO S (pv S p) := hW.1 (ix p)
theorem vR_new {S : Sx} (hb : sNr S < 512) {k : Int32} {n : Nat} {f : Nat → Int32} : vR (uNew S k n f) (nI (sNr S)) := by
  refine ⟨nI_pos (by omega), ?_⟩
  rw [ix_nI (by omega)]
  exact Nat.lt_succ_self _
theorem Wf.new {S : Sx} (hW : Wf S) (hb : sNr S < 512) {k : Int32} {n : Nat} {f : Nat → Int32} (hk : 0 ≤ k ∧ k ≤ 5) (hn : n ≤ 40) (h2 : k = 2 → ∀ j, f j = -1 ∨ (vR S (f j) ∧ kdv S (f j) = 1)) (h3 : 3 ≤ k → ∀ j, f j = -1 ∨ vT S (f j)) : Wf (uNew S k n f) := by
  obtain ⟨a1, a2, a3, a4⟩ := hW
  have kd : ∀ {v : Int32}, vR S v → sKd (uNew S k n f) (ix v) = sKd S (ix v) := by
    intro v hv
    have h := new_ix hv
    simp [sKd, uNew, upd, h]
  refine ⟨fun p => ?_, fun r hr => ?_, a3, by show sNr S + 1 ≤ 512; omega, a4.2⟩
  · rcases a1 p with q | q | q
    · exact Or.inl q
    · exact Or.inr (Or.inl (new_vr q))
    · exact Or.inr (Or.inr q)
  · by_cases e : r = S.2.2.1
    · subst e
      rw [show sKd (uNew S k n f) S.2.2.1 = k by simp [sKd, uNew, upd], show sLn (uNew S k n f) S.2.2.1 = n by simp [sLn, uNew, va_up], show sIt (uNew S k n f) S.2.2.1 = f by simp [sIt, uNew, va_up]]
      refine ⟨hk, hn, fun e j => ?_, h3⟩
      rcases h2 e j with q | ⟨q1, q2⟩
      · exact Or.inl q
      · refine Or.inr ⟨new_vr q1, ?_⟩
        rw [kd q1, ← kdv_r q1]; exact q2
    · have hr : r < sNr S := by
        have h9 : r < sNr S + 1 := hr
        have h8 : ¬ r = sNr S := e
        omega
      obtain ⟨b1, b2, b3, b4⟩ := a2 r hr
      rw [show sKd (uNew S k n f) r = sKd S r by simp [sKd, uNew, upd, e], show sLn (uNew S k n f) r = sLn S r by simp [sLn, uNew, va_up, e], show sIt (uNew S k n f) r = sIt S r by simp [sIt, uNew, va_up, e]]
      refine ⟨b1, b2, fun e j => ?_, b4⟩
      rcases b3 e j with q | ⟨q1, q2⟩
      · exact Or.inl q
      · exact Or.inr ⟨new_vr q1, by rw [kd q1]; exact q2⟩
theorem Gd.new {S : Sx} {k : Int32} {n : Nat} {f : Nat → Int32} (hb : sNr S < 512) (h : Wf (uNew S k n f)) (j : Nat) (x : Int32) : Gd S (uCod (uPl (uNew S k n f) j (nI (sNr S))) x) := ⟨h.upl (Or.inr (Or.inl (vR_new hb))) j, Nat.le_refl _, Nat.le_succ _, Nat.le_succ _⟩
theorem new_of {S : Sx} (hW : Wf S) (hb : sNr S < 512) {v : Int32} (hv : vR S v) {n : Nat} {f : Nat → Int32} (hn : n ≤ 40) (hf : ∀ k, f k = ini (kdv S v) k ∨ ∃ j, f k = itv S v j) : Wf (uNew S (kdv S v) n f) := by
  obtain ⟨h1, -, h3, h4⟩ := hW.row hv
  refine hW.new hb h1 hn (fun e j => ?_) (fun e j => ?_)
  · rcases hf j with q | ⟨m, q⟩
    · rw [q, ini_p (by rw [e]; decide)]; exact Or.inl rfl
    · rw [q]; exact h3 e m
  · rcases hf j with q | ⟨m, q⟩
    · rw [q, ini_p (fun q9 => (isN_lt q9).1 e)]; exact Or.inl rfl
    · rw [q]; exact h4 e m
theorem cpy_ini_of {f g : Nat → Int32} {i n : Nat} (k : Nat) : va_cpy f g i 0 n k = g k ∨ ∃ j, va_cpy f g i 0 n k = f j := by
  unfold va_cpy
  by_cases h : 0 ≤ k ∧ k < 0 + n
  · rw [if_pos h]; exact Or.inr ⟨_, rfl⟩
  · rw [if_neg h]; exact Or.inl rfl
section WELL
variable {S : Sx}
theorem gd_code (hW : Wf S) (_hb : sNr S < 512 ∧ sNt S < 512 ∧ sNl S < 512) : Gd S (sp_code S).2 := Gd.id hW
theorem gd_make (hW : Wf S) (hb : sNr S < 512 ∧ sNt S < 512 ∧ sNl S < 512) (p k n : Int32) : Gd S (sp_make S p k n).2 := by
  unfold sp_make
  split
  · exact Gd.id hW
  · rename_i h
    split
    · exact Gd.id hW
    · rename_i h2
      have h2 := Classical.not_not.mp h2
      have k0 : ¬ k < 0 := fun q => h (Or.inr (Or.inl q))
      have k5 : ¬ 5 < k := fun q => h (Or.inr (Or.inr (Or.inl q)))
      have n4 : n ≤ 40 := Classical.byContradiction fun q => h (Or.inr (Or.inr (Or.inr q)))
      obtain ⟨nj, hnj, rfl⟩ := le40_nat h2 n4
      rw [ix_nI (show nj < 2 ^ 31 by omega)]
      refine Gd.new hb.1 (hW.new hb.1 ⟨Int32.not_lt.mp k0, Int32.not_lt.mp k5⟩ (by omega) (fun e j => ?_) (fun e j => ?_)) _ _
      · rw [ini_p (by rw [e]; decide)]; exact Or.inl rfl
      · rw [ini_p (fun q9 => (isN_lt q9).1 e)]; exact Or.inl rfl
theorem gd_share (hW : Wf S) (hb : sNr S < 512 ∧ sNt S < 512 ∧ sNl S < 512) (p o : Int32) : Gd S (sp_share S p o).2 := by
  unfold sp_share
  split
  · exact Gd.id hW
  · exact Gd.pl hW (hW.pv o) _
theorem gd_nothing (hW : Wf S) (hb : sNr S < 512 ∧ sNt S < 512 ∧ sNl S < 512) (p : Int32) : Gd S (sp_nothing S p).2 := by
  unfold sp_nothing
  split
  · exact Gd.id hW
  · exact Gd.pl hW (Or.inl rfl) _
theorem gd_lump (hW : Wf S) (hb : sNr S < 512 ∧ sNt S < 512 ∧ sNl S < 512) (p : Int32) : Gd S (sp_lump S p).2 := by
  unfold sp_lump
  split
  · exact Gd.id hW
  · have hU : Wf (uLu S) := by
      obtain ⟨a1, a2, a3, a4, a5, a6⟩ := hW
      refine ⟨fun p => ?_, a2, a3, a4, a5, by show sNl S + 1 ≤ 512; omega⟩
      rcases a1 p with q | q | q
      · exact Or.inl q
      · exact Or.inr (Or.inl q)
      · refine Or.inr (Or.inr ⟨q.1, ?_⟩)
        have := q.2
        show -1 - ((sNl S + 1 : Nat) : Int) ≤ (sPl S p).toInt
        omega
    refine ⟨hU.upl (Or.inr (Or.inr ?_)) _, Nat.le_succ _, Nat.le_succ _, Nat.le_refl _⟩
    have e : (luv S).toInt = -1 - ((sNl S + 1 : Nat) : Int) := by
      unfold luv
      rw [Int32.toInt_sub, nI_toInt (by omega), m1_toInt]
      apply Int.bmod_eq_of_le <;> omega
    refine ⟨by rw [e]; omega, ?_⟩
    rw [e]
    exact Int.le_refl _
theorem gd_kind (hW : Wf S) (hb : sNr S < 512 ∧ sNt S < 512 ∧ sNl S < 512) (p : Int32) : Gd S (sp_kind S p).2 := by
  unfold sp_kind
  split <;> exact Gd.id hW
theorem gd_length (hW : Wf S) (hb : sNr S < 512 ∧ sNt S < 512 ∧ sNl S < 512) (p : Int32) : Gd S (sp_length S p).2 := by
  unfold sp_length
  split
  · exact Gd.id hW
  split
  · exact Gd.id hW
  split <;> exact Gd.id hW
theorem gd_set (hW : Wf S) (hb : sNr S < 512 ∧ sNt S < 512 ∧ sNl S < 512) (p k x : Int32) : Gd S (sp_set S p k x).2 := by
  unfold sp_set
  split
  · exact Gd.id hW
  split
  · exact Gd.id hW
  rename_i h1
  split
  · exact Gd.id hW
  rename_i h2
  split
  · exact Gd.id hW
  have h2 := Classical.not_not.mp h2
  have hr := row_of_N ((hW.pv p).resolve_left h1) h2
  exact Gd.row (hW.set hr (fun e => absurd e (isN_lt h2).2) (fun e => absurd e (isN_lt h2).1)) 0
theorem Wf.th (hW : Wf S) (hb : sNr S < 512 ∧ sNt S < 512 ∧ sNl S < 512) (c x : Int32) (hc : ¬ c = -1) : Wf (uTh S c x) := by
  obtain ⟨a1, a2, a3, a4, a5, a6⟩ := hW
  refine ⟨a1, fun r hr => ?_, fun t ht => ?_, a4, by show sNt S + 1 ≤ 512; omega, a6⟩
  · obtain ⟨b1, b2, b3, b4⟩ := a2 r hr
    refine ⟨b1, b2, b3, fun e j => ?_⟩
    rcases b4 e j with q | q
    · exact Or.inl q
    · exact Or.inr ⟨q.1, Nat.lt_succ_of_lt q.2⟩
  · by_cases e : t = S.2.2.2.2.2.2.1
    · subst e; simpa [sCl, uTh, upd] using hc
    · have ht : t < sNt S := by
        have h9 : t < sNt S + 1 := ht
        have h8 : ¬ t = sNt S := e
        omega
      simpa [sCl, uTh, upd, e] using a3 t ht
theorem gd_thing (hW : Wf S) (hb : sNr S < 512 ∧ sNt S < 512 ∧ sNl S < 512) (p k c x : Int32) : Gd S (sp_thing S p k c x).2 := by
  unfold sp_thing
  split
  · exact Gd.id hW
  split
  · exact Gd.id hW
  rename_i h1
  split
  · exact Gd.id hW
  rename_i h2
  split
  · exact Gd.id hW
  split
  · exact Gd.id hW
  have h2 := Classical.not_not.mp h2
  have hr := vO_row ((hW.pv p).resolve_left h1) (by rcases h2 with h | h | h <;> rw [h] <;> decide)
  have n2 : ¬ kdv S (pv S p) = 2 := by rcases h2 with h | h | h <;> rw [h] <;> decide
  split
  · refine Gd.row (hW.set hr (fun e => absurd e n2) (fun e j => ?_)) 0
    unfold upd
    by_cases q : j = ix k
    · rw [if_pos q]; exact Or.inl rfl
    · rw [if_neg q]; exact (hW.row hr).2.2.2 e j
  · rename_i hc
    refine ⟨(Wf.th hW hb c x hc).set (S := uTh S c x) hr (fun e => absurd e n2) (fun e j => ?_), Nat.le_succ _, Nat.le_refl _, Nat.le_succ _⟩
    unfold upd
    by_cases q : j = ix k
    · rw [if_pos q]
      refine Or.inr ⟨nI_pos (by omega), ?_⟩
      rw [ix_nI (by omega)]
      exact Nat.lt_succ_self _
    · rw [if_neg q]
      rcases (hW.row hr).2.2.2 e j with q | q
      · exact Or.inl q
      · exact Or.inr ⟨q.1, Nat.lt_succ_of_lt q.2⟩
theorem gd_hang (hW : Wf S) (hb : sNr S < 512 ∧ sNt S < 512 ∧ sNl S < 512) (p k o : Int32) : Gd S (sp_hang S p k o).2 := by
  unfold sp_hang
  split
  · exact Gd.id hW
  split
  · exact Gd.id hW
  rename_i h1
  split
  · exact Gd.id hW
  rename_i h2
  split
  · exact Gd.id hW
  rename_i h3
  split
  · exact Gd.id hW
  have h2 := Classical.not_not.mp h2
  have h3 := Classical.not_not.mp h3
  have hr := vO_row ((hW.pv p).resolve_left h1) (by rw [h2]; decide)
  refine Gd.row (hW.set hr (fun e j => ?_) (fun e => by rw [h2] at e; exact absurd e (by decide))) 0
  unfold upd
  by_cases q : j = ix k
  · rw [if_pos q]
    by_cases e1 : pv S o = -1
    · exact Or.inl e1
    · have e2 := h3.resolve_left e1
      exact Or.inr ⟨row_of_N ((hW.pv o).resolve_left e1) (Or.inr e2), e2⟩
  · rw [if_neg q]; exact (hW.row hr).2.2.1 h2 j
theorem gd_item (hW : Wf S) (hb : sNr S < 512 ∧ sNt S < 512 ∧ sNl S < 512) (p k : Int32) : Gd S (sp_item S p k).2 := by
  unfold sp_item
  split
  · exact Gd.id hW
  split
  · exact Gd.id hW
  split
  · exact Gd.id hW
  split
  · exact Gd.id hW
  split
  · exact Gd.id hW
  split <;> exact Gd.id hW
theorem gd_classOf (hW : Wf S) (hb : sNr S < 512 ∧ sNt S < 512 ∧ sNl S < 512) (p k : Int32) : Gd S (sp_classOf S p k).2 := by
  unfold sp_classOf
  split
  · exact Gd.id hW
  split
  · exact Gd.id hW
  split
  · exact Gd.id hW
  split <;> exact Gd.id hW
theorem may_rows (hW : Wf S) {x y : Int32} (h1 : ¬ (pv S x = -1 ∨ pv S y = -1)) (h2 : mayT (kdv S (pv S y)) (kdv S (pv S x))) : vR S (pv S x) ∧ vR S (pv S y) :=
  ⟨vO_row ((hW.pv x).resolve_left fun q => h1 (Or.inl q)) fun q => h2.1 (Or.inr q), vO_row ((hW.pv y).resolve_left fun q => h1 (Or.inr q)) fun q => h2.1 (Or.inl q)⟩
theorem gd_move (hW : Wf S) (hb : sNr S < 512 ∧ sNt S < 512 ∧ sNl S < 512) (x i y j n : Int32) : Gd S (sp_move S x i y j n).2 := by
  unfold sp_move
  split
  · exact Gd.id hW
  split
  · exact Gd.id hW
  rename_i h1
  split
  · exact Gd.id hW
  rename_i h2
  split
  · exact Gd.id hW
  have h2 := Classical.not_not.mp h2
  obtain ⟨hu, hv⟩ := may_rows hW h1 h2
  refine Gd.row (hW.got hu hv h2 (cpy_got (fun k hk => ?_))) _
  by_cases e : isN (kdv S (pv S y))
  · exact Or.inl e
  · exact Or.inr ((mvN_spec.2 e).1 k hk)
theorem gd_lpS (hW : Wf S) (u v i j : Int32) : ∀ (d t : Nat) (T : Sx), Gd S T → vR T u → vR T v → mayT (kdv T v) (kdv T u) → Gd S (lpS u v i j d t T).2 := by
  intro d
  induction d with
  | zero => intro t T h _ _ _; exact h
  | succ d ih =>
    intro t T h hu hv hm
    simp only [lpS]
    split
    · exact h
    split
    · exact h
    rename_i hk
    have hk := Classical.not_not.mp hk
    refine ih (t + 1) _ ⟨h.1.got hu hv hm (fun k => ?_), h.2⟩ hu hv hm
    unfold upd
    by_cases e : k = ix (j + nI t)
    · rw [if_pos e]; exact Or.inr ⟨_, rfl, fun q => hk.resolve_left q⟩
    · rw [if_neg e]; exact Or.inl rfl
theorem gd_loop (hW : Wf S) (hb : sNr S < 512 ∧ sNt S < 512 ∧ sNl S < 512) (x i y j n : Int32) : Gd S (sp_loop S x i y j n).2 := by
  unfold sp_loop
  split
  · exact Gd.id hW
  split
  · exact Gd.id hW
  rename_i h1
  split
  · exact Gd.id hW
  rename_i h2
  have h2 := Classical.not_not.mp h2
  obtain ⟨hu, hv⟩ := may_rows hW h1 h2
  exact gd_lpS hW _ _ _ _ _ _ _ (Gd.id hW) hu hv h2
theorem gd_copy (hW : Wf S) (hb : sNr S < 512 ∧ sNt S < 512 ∧ sNl S < 512) (p o : Int32) : Gd S (sp_copy S p o).2 := by
  unfold sp_copy
  split
  · exact Gd.id hW
  split
  · exact Gd.id hW
  rename_i h1
  split
  · exact Gd.id hW
  rename_i h2
  have hr := vO_row ((hW.pv o).resolve_left h1) h2
  exact Gd.new hb.1 (new_of hW hb.1 hr (hW.ln (Or.inl hr)) (fun k => cpy_ini_of k)) _ _
theorem gd_slice (hW : Wf S) (hb : sNr S < 512 ∧ sNt S < 512 ∧ sNl S < 512) (p o i n : Int32) : Gd S (sp_slice S p o i n).2 := by
  unfold sp_slice
  split
  · exact Gd.id hW
  split
  · exact Gd.id hW
  rename_i h1
  split
  · exact Gd.id hW
  rename_i h2
  split
  · exact Gd.id hW
  split
  · exact Gd.id hW
  rename_i h4
  have h4 := Classical.not_not.mp h4
  have hr := vO_row ((hW.pv o).resolve_left h1) h2
  have hl := hW.ln (Or.inl hr)
  obtain ⟨ia, nb, hin, rfl, rfl⟩ := rg_nat hl h4
  refine Gd.new hb.1 (new_of hW hb.1 hr ?_ (fun k => cpy_ini_of k)) _ _
  rw [ix_nI (by omega)]
  omega
theorem gd_join (hW : Wf S) (hb : sNr S < 512 ∧ sNt S < 512 ∧ sNl S < 512) (p a b : Int32) : Gd S (sp_join S p a b).2 := by
  unfold sp_join
  split
  · exact Gd.id hW
  split
  · exact Gd.id hW
  rename_i h1
  split
  · exact Gd.id hW
  rename_i h2
  split
  · exact Gd.id hW
  rename_i h3
  split
  · exact Gd.id hW
  rename_i h4
  have h3 := Classical.not_not.mp h3
  have hm : mayT (kdv S (pv S a)) (kdv S (pv S b)) := Classical.byContradiction fun q => h4 (Or.inl q)
  have hmv : ¬ mvN S (pv S b) (pv S a) 0 (lnv S (pv S b)) < lnv S (pv S b) := fun q => h4 (Or.inr q)
  obtain ⟨hu, hv⟩ := may_rows hW (x := b) (y := a) (fun q => h1 q.symm) hm
  obtain ⟨k1, -, c1, c2⟩ := hW.row hv
  obtain ⟨-, -, d1, d2⟩ := hW.row hu
  have hfit : ¬ isN (kdv S (pv S a)) → ∀ k, k < lnv S (pv S b) → fitS S (kdv S (pv S b)) (itv S (pv S b) (0 + k)) (kdv S (pv S a)) := fun e k hk => (mvN_spec (S := S) (u := pv S b) (v := pv S a) (i := 0) (n := lnv S (pv S b)) |>.2 e).1 k (by omega)
  refine Gd.new hb.1 (hW.new hb.1 k1 h3 (fun e j => ?_) (fun e j => ?_)) _ _
  · have hn : ¬ isN (kdv S (pv S a)) := fun q => (isN_lt q).2 e
    unfold va_cpy
    by_cases q1 : lnv S (pv S a) ≤ j ∧ j < lnv S (pv S a) + lnv S (pv S b)
    · rw [if_pos q1]
      rcases hfit hn (j - lnv S (pv S a)) (by omega) with q | ⟨q, -⟩ | ⟨-, q⟩
      · exact Or.inl q
      · exact d1 q _
      · rw [e] at q
        rcases q with q | ⟨q, -⟩ | ⟨q, -⟩ <;> exact absurd q (by decide)
    · rw [if_neg q1]
      by_cases q2 : 0 ≤ j ∧ j < 0 + lnv S (pv S a)
      · rw [if_pos q2]; exact c1 e _
      · rw [if_neg q2, ini_p hn]; exact Or.inl rfl
  · have hn : ¬ isN (kdv S (pv S a)) := fun q => (isN_lt q).1 e
    unfold va_cpy
    by_cases q1 : lnv S (pv S a) ≤ j ∧ j < lnv S (pv S a) + lnv S (pv S b)
    · rw [if_pos q1]
      rcases hfit hn (j - lnv S (pv S a)) (by omega) with q | ⟨q, q2⟩ | ⟨q, -⟩
      · exact Or.inl q
      · rw [q2] at e; exact absurd e (by decide)
      · exact d2 (kd_ge3 hW hu (may_notN hm hn) q) _
    · rw [if_neg q1]
      by_cases q2 : 0 ≤ j ∧ j < 0 + lnv S (pv S a)
      · rw [if_pos q2]; exact c2 e _
      · rw [if_neg q2, ini_p hn]; exact Or.inl rfl
theorem gd_upS (hW : Wf S) (v q u : Int32) : ∀ (d t : Nat) (T : Sx), Gd S T → vR T v → kdv T v = 1 → Gd S (upS v q u d t T).2 := by
  intro d
  induction d with
  | zero => intro t T h _ _; exact h
  | succ d ih =>
    intro t T h hv hk
    simp only [upS]
    split
    · exact h
    exact ih (t + 1) _ ⟨h.1.set hv (fun e => by rw [hk] at e; exact absurd e (by decide)) (fun e => by rw [hk] at e; exact absurd e (by decide)), h.2⟩ hv hk
theorem gd_update (hW : Wf S) (hb : sNr S < 512 ∧ sNt S < 512 ∧ sNl S < 512) (p q u : Int32) : Gd S (sp_update S p q u).2 := by
  unfold sp_update
  split
  · exact Gd.id hW
  split
  · exact Gd.id hW
  rename_i h1
  split
  · exact Gd.id hW
  rename_i h2
  have h2 := Classical.not_not.mp h2
  exact gd_upS hW _ _ _ _ _ _ (Gd.id hW) (row_of_N ((hW.pv p).resolve_left fun q => h1 (Or.inl q)) (Or.inr h2.1)) h2.1
theorem gd_rotate (hW : Wf S) (hb : sNr S < 512 ∧ sNt S < 512 ∧ sNl S < 512) (p b : Int32) : Gd S (sp_rotate S p b).2 := by
  unfold sp_rotate
  split
  · exact Gd.id hW
  split
  · exact Gd.id hW
  rename_i h1
  split
  · exact Gd.id hW
  rename_i h2
  split
  · exact Gd.id hW
  have hr := vO_row ((hW.pv p).resolve_left h1) h2
  refine Gd.row (hW.perm hr (fun k => ?_)) 0
  unfold rotF
  by_cases e : k < lnv S (pv S p)
  · rw [if_pos e]; exact ⟨_, rfl⟩
  · rw [if_neg e]; exact ⟨_, rfl⟩
theorem gd_smT (hW : Wf S) (f : Nat → Int32) : ∀ (d t : Nat) (acc : Int32), Gd S (smT S f d t acc).2 := by
  intro d
  induction d with
  | zero => intro t acc; exact Gd.id hW
  | succ d ih =>
    intro t acc
    simp only [smT]
    split
    · exact Gd.id hW
    exact ih _ _
theorem gd_sum (hW : Wf S) (hb : sNr S < 512 ∧ sNt S < 512 ∧ sNl S < 512) (p : Int32) : Gd S (sp_sum S p).2 := by
  unfold sp_sum
  split
  · exact Gd.id hW
  split
  · exact Gd.id hW
  split
  · exact Gd.id hW
  split
  · exact gd_smT hW _ _ _ _
  · exact Gd.id hW
theorem gd_mean (hW : Wf S) (hb : sNr S < 512 ∧ sNt S < 512 ∧ sNl S < 512) (p : Int32) : Gd S (sp_mean S p).2 := by
  unfold sp_mean
  split
  · exact Gd.id hW
  split
  · exact Gd.id hW
  split
  · exact Gd.id hW
  split <;> exact Gd.id hW
theorem gd_same (hW : Wf S) (hb : sNr S < 512 ∧ sNt S < 512 ∧ sNl S < 512) (a b : Int32) : Gd S (sp_same S a b).2 := by
  unfold sp_same
  split <;> exact Gd.id hW
theorem gd_equal (hW : Wf S) (hb : sNr S < 512 ∧ sNt S < 512 ∧ sNl S < 512) (a b : Int32) : Gd S (sp_equal S a b).2 := by
  unfold sp_equal
  split
  · exact Gd.id hW
  split
  · exact Gd.id hW
  split <;> exact Gd.id hW
theorem gd_compare (hW : Wf S) (hb : sNr S < 512 ∧ sNt S < 512 ∧ sNl S < 512) (a b : Int32) : Gd S (sp_compare S a b).2 := by
  unfold sp_compare
  split
  · exact Gd.id hW
  split
  · exact Gd.id hW
  split <;> exact Gd.id hW
theorem gd_held (hW : Wf S) (hb : sNr S < 512 ∧ sNt S < 512 ∧ sNl S < 512) (p : Int32) : Gd S (sp_held S p).2 := by
  unfold sp_held
  split
  · exact Gd.id hW
  split <;> exact Gd.id hW
end WELL
theorem Wf.zero : Wf Sz := ⟨fun _ => Or.inl rfl, fun r hr => absurd hr (Nat.not_lt_zero _), fun t ht => absurd ht (Nat.not_lt_zero _), Nat.zero_le _, Nat.zero_le _, Nat.zero_le _⟩
