/-! rows, lumps, things that come; items of rows of objects -/
theorem nI_inj {a b : Nat} (ha : a < 2 ^ 31) (hb : b < 2 ^ 31) (h : nI a = nI b) : a = b := (nI_eq ha hb).mp h
theorem nI_nm1 {a : Nat} (ha : a < 2 ^ 31) : nI a ≠ -1 := fun e => by
  have h := nI_pos ha
  rw [e] at h
  exact h (by decide)
theorem not_vL_nI {S : Sx} {n : Nat} (h : n < 2 ^ 31) : ¬ vL S (nI n) := fun q => nI_pos h (vL_neg q)
theorem Rp.new {E : En} {S : Sx} {D : Ad} {w w' : Wd} {q na qa n : Nat} {kd : Int32} {f : Nat → Int32} (h : Rp E S D w) (hW : Wf S) (hb : sNr S < 512) (hN : NewRow E w w' q na qa kd n (nz kd n) (if isN kd then f else fun _ => 0) (pz kd n) (if isN kd then fun _ => none else fun k => pO D kd (f k))) (hfi : kd = 2 → ∀ k, f k = -1 ∨ vR S (f k)) : Rp E (uNew S kd n f) (adR D (nI (sNr S)) q na qa) w' ∧ vR (uNew S kd n f) (nI (sNr S)) ∧ lnv (uNew S kd n f) (nI (sNr S)) = n ∧ aR (adR D (nI (sNr S)) q na qa) (nI (sNr S)) = q := by
  have hb1 : sNr S < 2 ^ 31 := by omega
  have hp := nI_pos hb1
  have hix : ix (nI (sNr S)) = sNr S := ix_nI hb1
  have hnv : ¬ vR S (nI (sNr S)) := fun e => by have := e.2; rw [hix] at this; omega
  have hnO : ¬ vO S (nI (sNr S)) := fun e => e.elim hnv (not_vL_nI hb1)
  have hl : lnv (uNew S kd n f) (nI (sNr S)) = n := by
    unfold lnv
    rw [if_neg hp, hix]
    simp [va_up, sLn, uNew]
  refine ⟨h.grow (S' := uNew S kd n f) (v := nI (sNr S)) (n := n) (f := f) hW hN hnO (nI_nm1 hb1) (fun u hu => ?_) ?_ hl ?_ (fun u hu => ?_) rfl rfl rfl rfl rfl rfl rfl (fun e k => ?_), ⟨hp, ?_⟩, hl, if_pos rfl⟩
  · rcases hu with hu | hu
    · by_cases e : ix u = sNr S
      · exact Or.inl (by rw [← e, nI_ix hu.1])
      · refine Or.inr (Or.inl ⟨hu.1, ?_⟩)
        have h9 : ix u < sNr S + 1 := hu.2
        omega
    · exact Or.inr (Or.inr hu)
  · unfold kdv
    rw [if_neg hp, hix]
    simp [upd, sKd, uNew]
  · unfold itv
    rw [if_neg hp, hix]
    simp [va_up, sIt, uNew]
  · rcases hu with hu | hu
    · have hne : ¬ ix u = S.2.2.1 := fun e => by have := hu.2; rw [e] at this; exact Nat.lt_irrefl _ this
      refine ⟨?_, ?_, ?_⟩
      · unfold kdv; rw [if_neg hu.1, if_neg hu.1]; simp [upd, sKd, uNew, hne]
      · unfold lnv; rw [if_neg hu.1, if_neg hu.1]; simp [va_up, sLn, uNew, hne]
      · unfold itv; rw [if_neg hu.1, if_neg hu.1]; simp [va_up, sIt, uNew, hne]
    · have hn := vL_neg hu
      refine ⟨?_, ?_, ?_⟩
      · unfold kdv; rw [if_pos hn, if_pos hn]
      · unfold lnv; rw [if_pos hn, if_pos hn]
      · unfold itv; rw [if_pos hn, if_pos hn]
  · rcases hfi e k with q | q
    · rw [q]; exact (nI_nm1 hb1).symm
    · intro e2; exact hnv (e2 ▸ q)
  · rw [hix]; exact Nat.lt_succ_self _
theorem isN6 : ¬ isN 6 := by decide
theorem luv_toInt {S : Sx} (hb : sNl S < 512) : (luv S).toInt = -2 - (sNl S : Int) := by
  unfold luv
  rw [Int32.toInt_sub]
  have e1 : (nI (sNl S + 1)).toInt = ((sNl S + 1 : Nat) : Int) := nI_toInt (by omega)
  rw [e1, show (-1 : Int32).toInt = -1 by decide, Int.bmod_def]
  omega
theorem six_ne2 : ¬ (6 : Int32) = 2 := by decide
set_option maxRecDepth 100000 in
theorem Rp.lump {E : En} {S : Sx} {D : Ad} {w w' : Wd} {q na qa : Nat} (h : Rp E S D w) (hW : Wf S) (hb : sNl S < 512) (hN : NewRow E w w' q na qa 6 0 0 (fun _ => 0) 0 (fun _ => none)) : Rp E (uLu S) (adR D (luv S) q na qa) w' ∧ vO (uLu S) (luv S) ∧ aR (adR D (luv S) q na qa) (luv S) = q ∧ luv S ≠ -1 := by
  have ht := luv_toInt hb
  have hneg : luv S < 0 := by
    rw [Int32.lt_iff_toInt_lt, ht]
    simp; omega
  have hnO : ¬ vO S (luv S) := by
    intro e
    rcases e with e | e
    · exact e.1 hneg
    · have := e.2; rw [ht] at this; omega
  have hm1 : luv S ≠ -1 := fun e => by
    rw [e] at ht
    have : (-1 : Int32).toInt = -1 := by decide
    rw [this] at ht
    omega
  refine ⟨h.grow (S' := uLu S) (v := luv S) (kd := 6) (n := 0) (f := fun _ => -1) (f1 := fun _ => 0) (g1 := fun _ => none) hW (by rw [show nz 6 0 = 0 from if_neg isN6, show pz 6 0 = 0 from if_neg isN6]; exact hN) hnO hm1 (fun u hu => ?_) ?_ ?_ ?_ (fun u hu => ⟨rfl, rfl, rfl⟩) rfl rfl rfl rfl rfl (if_neg isN6).symm ?_ (fun e => absurd e six_ne2), Or.inr ⟨?_, ?_⟩, ?_, hm1⟩
  · rcases hu with hu | hu
    · exact Or.inr (Or.inl hu)
    · by_cases e : u.toInt = (luv S).toInt
      · exact Or.inl (Int32.toInt_inj.mp e)
      · refine Or.inr (Or.inr ⟨hu.1, ?_⟩)
        have h9 : -1 - ((sNl S + 1 : Nat) : Int) ≤ u.toInt := hu.2
        rw [ht] at e
        omega
  · unfold kdv; rw [if_pos hneg]
  · unfold lnv; rw [if_pos hneg]
  · unfold itv; rw [if_pos hneg]
  · rw [if_neg isN6]
    funext k
    unfold pO
    rw [if_pos rfl]
  · rw [ht]; omega
  · rw [ht]
    show -1 - ((sNl S + 1 : Nat) : Int) ≤ _
    omega
  · generalize luv S = u
    exact if_pos rfl
theorem Wf.part {S : Sx} (hW : Wf S) (D : Ad) {v : Int32} (hv : vR S v) (hk : ¬ isN (kdv S v)) (k : Nat) : (itv S v k = -1 ∧ pO D (kdv S v) (itv S v k) = none) ∨ (¬ itv S v k = -1 ∧ kdv S v = 2 ∧ vR S (itv S v k) ∧ kdv S (itv S v k) = 1 ∧ pO D (kdv S v) (itv S v k) = some (aR D (itv S v k))) ∨ (¬ itv S v k = -1 ∧ ¬ kdv S v = 2 ∧ vT S (itv S v k) ∧ pO D (kdv S v) (itv S v k) = some (aT D (itv S v k))) := by
  obtain ⟨h1, -, h2, h3⟩ := hW.row hv
  by_cases e : itv S v k = -1
  · exact Or.inl ⟨e, by unfold pO; rw [if_pos e]⟩
  · by_cases e2 : kdv S v = 2
    · have := (h2 e2 k).resolve_left e
      exact Or.inr (Or.inl ⟨e, e2, this.1, this.2, by unfold pO; rw [if_neg e, if_pos e2]⟩)
    · have h3le : 3 ≤ kdv S v := by
        rcases kd_cases (hW.kd (Or.inl hv)).1 (hW.kd (Or.inl hv)).2 with q | q | q | q | q | q | q <;> simp_all
      exact Or.inr (Or.inr ⟨e, e2, (h3 h3le k).resolve_left e, by unfold pO; rw [if_neg e, if_neg e2]⟩)
theorem Rp.ok {E : En} {S : Sx} {D : Ad} {w : Wd} (h : Rp E S D w) (hW : Wf S) {v : Int32} (hv : vR S v) (hk : ¬ isN (kdv S v)) (k : Nat) : okW w (pO D (kdv S v) (itv S v k)) := by
  rcases hW.part D hv hk k with ⟨-, e⟩ | ⟨-, -, hx, -, e⟩ | ⟨-, -, hx, e⟩ <;> rw [e]
  · intro b q; cases q
  · intro b q; cases q
    exact Or.inr ⟨_, _, _, _, (h.2.2.1 _ (Or.inl hx)).1⟩
  · intro b q; cases q
    exact Or.inl ⟨_, _, h.2.2.2.1 _ hx⟩
theorem Rp.fit {E : En} {S : Sx} {D : Ad} {w : Wd} (h : Rp E S D w) (hW : Wf S) {v : Int32} (hv : vR S v) (hk : ¬ isN (kdv S v)) (k : Nat) (kd : Int32) : fitW w kd (pO D (kdv S v) (itv S v k)) ↔ fitS S (kdv S v) (itv S v k) kd := by
  rcases hW.part D hv hk k with ⟨e0, e⟩ | ⟨e0, e2, hx, -, e⟩ | ⟨e0, e2, hx, e⟩ <;> rw [e]
  · exact ⟨fun _ => Or.inl e0, fun _ => fitW_none⟩
  · rw [fitW_row (h.2.2.1 _ (Or.inl hx)).1]
    constructor
    · intro q; exact Or.inr (Or.inl ⟨e2, q⟩)
    · rintro (q | q | q)
      · exact absurd q e0
      · exact q.2
      · exact absurd e2 q.1
  · rw [fitW_th (h.2.2.2.1 _ hx)]
    constructor
    · intro q; exact Or.inr (Or.inr ⟨e2, q⟩)
    · rintro (q | q | q)
      · exact absurd q e0
      · exact absurd q.1 e2
      · exact q.2
theorem row_of_N {S : Sx} {v : Int32} (hv : vO S v) (hk : isN (kdv S v)) : vR S v := vO_row hv (fun e => by rw [e] at hk; exact isN6 hk)
theorem has_no {n : Nat} {k : Int32} (h : ¬ (¬ k < 0 ∧ ¬ nI n ≤ k)) : oI n k := Classical.byContradiction fun q => h ⟨fun a => q (Or.inl a), fun a => q (Or.inr a)⟩
theorem has_yes {n : Nat} {k : Int32} (h : ¬ k < 0 ∧ ¬ nI n ≤ k) : ¬ oI n k := fun q => q.elim h.1 h.2
