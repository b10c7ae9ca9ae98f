/-! turning -/
theorem rem40 {x : Int32} {n : Nat} (h0 : 0 < n) (hn : n ≤ 40) : (x - x / nI n * nI n).toInt = x.toInt.tmod (n : Int) := by
  rw [rem_toInt, nI_toInt (by omega)]
theorem rotI_lt {b : Int32} {n : Nat} (h0 : 0 < n) : rotI b n < n := by
  unfold rotI
  have h1 := Int.emod_nonneg b.toInt (show (n : Int) ≠ 0 by omega)
  have h2 := Int.emod_lt_of_pos b.toInt (show (0 : Int) < n by omega)
  omega
theorem rot_mod {x : Int32} {n : Nat} (h0 : 0 < n) (hn : n ≤ 40) : (if x - x / nI n * nI n < 0 then x - x / nI n * nI n + nI n else x - x / nI n * nI n) = nI (rotI x n) := by
  have hm := rem40 (x := x) h0 hn
  generalize x - x / nI n * nI n = y at hm ⊢
  have hr := rotI_lt (b := x) h0
  have he : (rotI x n : Int) = x.toInt % n := by
    unfold rotI
    have h1 := Int.emod_nonneg x.toInt (show (n : Int) ≠ 0 by omega)
    omega
  have e2 : (nI (rotI x n)).toInt = x.toInt % n := by rw [nI_toInt (by omega), he]
  have e1 : (nI n).toInt = (n : Int) := nI_toInt (by omega)
  have hem : x.toInt % n = if x.toInt.tmod n < 0 then x.toInt.tmod n + n else x.toInt.tmod n := by
    rw [Int.emod_eq_tmod]
    have a := Int.emod_nonneg x.toInt (show (n : Int) ≠ 0 by omega)
    by_cases hx : 0 ≤ x.toInt ∨ (n : Int) ∣ x.toInt
    · rw [if_pos hx]
      have : 0 ≤ x.toInt.tmod n := by
        rcases hx with hx | hx
        · exact Int.tmod_nonneg _ hx
        · rw [Int.tmod_eq_zero_of_dvd hx]; exact Int.le_refl _
      rw [if_neg (by omega)]; omega
    · rw [if_neg hx]
      have hx2 : x.toInt < 0 := by
        rcases Classical.em (0 ≤ x.toInt) with h | h
        · exact absurd (Or.inl h) hx
        · omega
      have h3 : x.toInt.tmod n ≤ 0 := by
        have a := Int.tmod_nonneg (n : Int) (show 0 ≤ -x.toInt by omega)
        rw [Int.neg_tmod] at a
        omega
      have h4 : x.toInt.tmod n ≠ 0 := fun e => hx (Or.inr (Int.dvd_of_tmod_eq_zero e))
      rw [if_pos (by omega)]
      omega
  have hlt : y < 0 ↔ x.toInt.tmod n < 0 := by
    rw [Int32.lt_iff_toInt_lt, hm]
    simp
  by_cases h : y < 0
  · rw [if_pos h]
    apply Int32.toInt_inj.mp
    have h2 := hlt.mp h
    have hlow : -(n : Int) < x.toInt.tmod n := by
      have b := Int.tmod_lt_of_pos (-x.toInt) (show (0 : Int) < n by omega)
      rw [Int.neg_tmod] at b
      omega
    rw [e2, hem, if_pos h2, Int32.toInt_add, hm, e1]
    apply Int.bmod_eq_of_le <;> omega
  · rw [if_neg h]
    apply Int32.toInt_inj.mp
    rw [e2, hem, if_neg (fun q => h (hlt.mpr q)), hm]
theorem xor_neg {x y : Int32} (hy : 0 ≤ y) : 0 ≤ (x ^^^ y) ↔ 0 ≤ x := by
  have hm : ∀ z : Int32, (0 ≤ z ↔ z.toBitVec.msb = false) := by
    intro z
    rw [Int32.le_iff_toInt_le, BitVec.msb_eq_toInt]
    show (0 : Int32).toInt ≤ z.toInt ↔ decide (z.toBitVec.toInt < 0) = false
    rw [show (0 : Int32).toInt = 0 by decide, show z.toBitVec.toInt = z.toInt from rfl]
    simp
  rw [hm, hm, Int32.toBitVec_xor, BitVec.msb_xor, (hm y).mp hy]
  simp
theorem fl_mod {x : Int32} {n : Nat} (h0 : 0 < n) (hn : n ≤ 40) : (if ¬ 0 ≤ (x ^^^ nI n) ∧ ¬ x - x / nI n * nI n = 0 then x - x / nI n * nI n + nI n else x - x / nI n * nI n) = nI (rotI x n) := by
  rw [← rot_mod h0 hn]
  have hm := rem40 (x := x) h0 hn
  have hxr := xor_neg (x := x) (y := nI n) (nI_pos' (by omega))
  generalize hy : x - x / nI n * nI n = y at hm ⊢
  have hz : (0 : Int32).toInt = 0 := by decide
  by_cases h : y < 0
  · rw [if_pos h, if_pos]
    rw [Int32.lt_iff_toInt_lt, hm, hz] at h
    refine ⟨fun q => ?_, fun q => ?_⟩
    · have := hxr.mp q
      rw [Int32.le_iff_toInt_le, hz] at this
      have := Int.tmod_nonneg (n : Int) this
      omega
    · rw [q, hz] at hm; omega
  · rw [if_neg h, if_neg]
    rintro ⟨q1, q2⟩
    rw [Int32.lt_iff_toInt_lt, hm, hz] at h
    have h2 : ¬ 0 ≤ x.toInt := fun q => q1 (hxr.mpr (by rw [Int32.le_iff_toInt_le, hz]; exact q))
    have a := Int.tmod_nonneg (n : Int) (show 0 ≤ -x.toInt by omega)
    rw [Int.neg_tmod] at a
    have : x.toInt.tmod n = 0 := by omega
    rw [this] at hm
    exact q2 (Int32.toInt_inj.mp (hm.trans hz.symm))
theorem rot_cpy {α : Type} {f z : Nat → α} {n st : Nat} (h : st < n) : va_cpy (va_cpy f z 0 0 n) (va_cpy (va_cpy f z 0 0 n) f 0 st (n - st)) (n - st) 0 st = fun k => if k < n then f ((k + (n - st)) % n) else f k := by
  funext k
  unfold va_cpy
  by_cases h1 : 0 ≤ k ∧ k < 0 + st
  · rw [if_pos h1, if_pos (by omega), if_pos (by omega), Nat.mod_eq_of_lt (by omega)]
    congr 1
    omega
  · rw [if_neg h1]
    by_cases h2 : st ≤ k ∧ k < st + (n - st)
    · rw [if_pos h2, if_pos (by omega), if_pos (by omega), Nat.mod_eq_sub_mod (by omega), Nat.mod_eq_of_lt (by omega)]
      congr 1
      omega
    · rw [if_neg h2, if_neg (by omega)]
