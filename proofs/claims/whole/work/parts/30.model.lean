/-! the reference: its cells hold the same state -/
abbrev Md : Type := Nat × Nat × Nat × Nat × Nat × Nat × Nat × Nat
abbrev mH (M : Md) : Nat := M.1
abbrev mP (M : Md) : Nat := M.2.1
abbrev mK (M : Md) : Nat := M.2.2.1
abbrev mL (M : Md) : Nat := M.2.2.2.1
abbrev mI (M : Md) : Nat := M.2.2.2.2.1
abbrev mC (M : Md) : Nat := M.2.2.2.2.2.1
abbrev mN (M : Md) : Nat := M.2.2.2.2.2.2.1
abbrev mT (M : Md) : Nat := M.2.2.2.2.2.2.2
abbrev mAp (M : Md) : Prop := mH M ≠ mP M ∧ mH M ≠ mK M ∧ mH M ≠ mL M ∧ mH M ≠ mI M ∧ mH M ≠ mC M ∧ mH M ≠ mN M ∧ mH M ≠ mT M ∧ mP M ≠ mK M ∧ mP M ≠ mL M ∧ mP M ≠ mI M ∧ mP M ≠ mC M ∧ mP M ≠ mN M ∧ mP M ≠ mT M ∧ mK M ≠ mL M ∧ mK M ≠ mI M ∧ mK M ≠ mC M ∧ mK M ≠ mN M ∧ mK M ≠ mT M ∧ mL M ≠ mI M ∧ mL M ≠ mC M ∧ mL M ≠ mN M ∧ mL M ≠ mT M ∧ mI M ≠ mC M ∧ mI M ≠ mN M ∧ mI M ≠ mT M ∧ mC M ≠ mN M ∧ mC M ≠ mT M ∧ mN M ≠ mT M
def plF (S : Sx) : Nat → Int32 := fun p => if p < 12 then sPl S p else 0
def itF (S : Sx) : Nat → Int32 := fun q => if q < 20800 then sIt S (q / 40) (q % 40) else 0
def lnF (S : Sx) : Nat → Int32 := fun r => nI (sLn S r)
abbrev eM (S : Sx) (M : Md) : va_E := .inr (3, [.int (sCod S), .ref (mP M), .int (nI (sNr S)), .ref (mK M), .ref (mL M), .ref (mI M), .int (nI (sNt S)), .ref (mC M), .ref (mN M), .int (nI (sNl S)), .ref (mT M)])
def Rm (E : En) (S : Sx) (M : Md) (t : Nat → Int32) (w : Wd) : Prop :=
  w (mH M) = some (eM S M) ∧ w (mP M) = some (eI E 12 (plF S)) ∧ w (mK M) = some (eI E 520 (sKd S)) ∧ w (mL M) = some (eI E 520 (lnF S)) ∧ w (mI M) = some (eI E 20800 (itF S)) ∧ w (mC M) = some (eI E 520 (sCl S)) ∧ w (mN M) = some (eI E 520 (sNu S)) ∧ w (mT M) = some (eI E 40 t) ∧ mAp M
abbrev uKd (S : Sx) (r : Nat) (k : Int32) : Sx := (S.1, S.2.1, S.2.2.1, upd S.2.2.2.1 r k, S.2.2.2.2)
abbrev uLn (S : Sx) (r n : Nat) : Sx := (S.1, S.2.1, S.2.2.1, S.2.2.2.1, va_up S.2.2.2.2.1 r n, S.2.2.2.2.2)
abbrev uNr (S : Sx) (n : Nat) : Sx := (S.1, S.2.1, n, S.2.2.2)
abbrev uCl (S : Sx) (r : Nat) (k : Int32) : Sx := (S.1, S.2.1, S.2.2.1, S.2.2.2.1, S.2.2.2.2.1, S.2.2.2.2.2.1, S.2.2.2.2.2.2.1, upd S.2.2.2.2.2.2.2.1 r k, S.2.2.2.2.2.2.2.2)
abbrev uNu (S : Sx) (r : Nat) (k : Int32) : Sx := (S.1, S.2.1, S.2.2.1, S.2.2.2.1, S.2.2.2.2.1, S.2.2.2.2.2.1, S.2.2.2.2.2.2.1, S.2.2.2.2.2.2.2.1, upd S.2.2.2.2.2.2.2.2.1 r k, S.2.2.2.2.2.2.2.2.2)
abbrev uNt (S : Sx) (n : Nat) : Sx := (S.1, S.2.1, S.2.2.1, S.2.2.2.1, S.2.2.2.2.1, S.2.2.2.2.2.1, n, S.2.2.2.2.2.2.2)
abbrev uNl (S : Sx) (n : Nat) : Sx := (S.1, S.2.1, S.2.2.1, S.2.2.2.1, S.2.2.2.2.1, S.2.2.2.2.2.1, S.2.2.2.2.2.2.1, S.2.2.2.2.2.2.2.1, S.2.2.2.2.2.2.2.2.1, n)
theorem plF_at {S : Sx} {j : Nat} (h : j < 12) : plF S j = sPl S j := if_pos h
theorem itF_at {S : Sx} {r k : Nat} (hr : r < 520) (hk : k < 40) : itF S (40 * r + k) = sIt S r k := by
  unfold itF
  rw [if_pos (by omega), show (40 * r + k) / 40 = r by omega, show (40 * r + k) % 40 = k by omega]
/-- only the first forty items of a row are kept -/
theorem itF_congr {S S' : Sx} (h : ∀ r k, r < 520 → k < 40 → sIt S r k = sIt S' r k) : itF S = itF S' := by
  funext q
  unfold itF
  by_cases hq : q < 20800
  · rw [if_pos hq, if_pos hq, h (q / 40) (q % 40) (by omega) (by omega)]
  · rw [if_neg hq, if_neg hq]
section RM
variable {E : En} {S : Sx} {M : Md} {t : Nat → Int32} {w : Wd}
theorem Rm.obj (h : Rm E S M t w) (S' : Sx) (h1 : sPl S' = sPl S) (h2 : sKd S' = sKd S) (h3 : sLn S' = sLn S) (h4 : sIt S' = sIt S) (h5 : sCl S' = sCl S) (h6 : sNu S' = sNu S) : Rm E S' M t (va_up w (mH M) (some (eM S' M))) := by
  obtain ⟨a1, a2, a3, a4, a5, a6, a7, a8, ap⟩ := h
  have hd := ap
  obtain ⟨d1, d2, d3, d4, d5, d6, d7, -⟩ := hd
  refine ⟨va_up_self _ _ _, ?_, ?_, ?_, ?_, ?_, ?_, ?_, ap⟩
  · rw [va_up_ne _ _ d1.symm, show plF S' = plF S by unfold plF; rw [h1]]; exact a2
  · rw [va_up_ne _ _ d2.symm, h2]; exact a3
  · rw [va_up_ne _ _ d3.symm, show lnF S' = lnF S by unfold lnF; rw [h3]]; exact a4
  · rw [va_up_ne _ _ d4.symm, show itF S' = itF S by unfold itF; rw [h4]]; exact a5
  · rw [va_up_ne _ _ d5.symm, h5]; exact a6
  · rw [va_up_ne _ _ d6.symm, h6]; exact a7
  · rw [va_up_ne _ _ d7.symm]; exact a8
theorem Rm.pl (h : Rm E S M t w) {j : Nat} (hj : j < 12) (v : Int32) : Rm E (uPl S j v) M t (va_up w (mP M) (some (eI E 12 (upd (plF S) j v)))) := by
  obtain ⟨a1, a2, a3, a4, a5, a6, a7, a8, ap⟩ := h
  have hd := ap
  obtain ⟨d1, -, -, -, -, -, -, d8, d9, d10, d11, d12, d13, -⟩ := hd
  refine ⟨?_, ?_, ?_, ?_, ?_, ?_, ?_, ?_, ap⟩
  · rw [va_up_ne _ _ d1]; exact a1
  · rw [va_up_self, show upd (plF S) j v = plF (uPl S j v) from ?_]
    funext q
    unfold plF upd
    by_cases e : q = j
    · subst e; simp [hj, sPl, uPl, upd]
    · simp [e, sPl, uPl, upd]
  · rw [va_up_ne _ _ d8.symm]; exact a3
  · rw [va_up_ne _ _ d9.symm]; exact a4
  · rw [va_up_ne _ _ d10.symm]; exact a5
  · rw [va_up_ne _ _ d11.symm]; exact a6
  · rw [va_up_ne _ _ d12.symm]; exact a7
  · rw [va_up_ne _ _ d13.symm]; exact a8
theorem Rm.kd (h : Rm E S M t w) (r : Nat) (v : Int32) : Rm E (uKd S r v) M t (va_up w (mK M) (some (eI E 520 (upd (sKd S) r v)))) := by
  obtain ⟨a1, a2, a3, a4, a5, a6, a7, a8, ap⟩ := h
  have hd := ap
  obtain ⟨-, d2, -, -, -, -, -, d8, -, -, -, -, -, d14, d15, d16, d17, d18, -⟩ := hd
  refine ⟨?_, ?_, va_up_self _ _ _, ?_, ?_, ?_, ?_, ?_, ap⟩
  · rw [va_up_ne _ _ d2]; exact a1
  · rw [va_up_ne _ _ d8]; exact a2
  · rw [va_up_ne _ _ d14.symm]; exact a4
  · rw [va_up_ne _ _ d15.symm]; exact a5
  · rw [va_up_ne _ _ d16.symm]; exact a6
  · rw [va_up_ne _ _ d17.symm]; exact a7
  · rw [va_up_ne _ _ d18.symm]; exact a8
theorem Rm.ln (h : Rm E S M t w) (r n : Nat) : Rm E (uLn S r n) M t (va_up w (mL M) (some (eI E 520 (upd (lnF S) r (nI n))))) := by
  obtain ⟨a1, a2, a3, a4, a5, a6, a7, a8, ap⟩ := h
  have hd := ap
  obtain ⟨-, -, d3, -, -, -, -, -, d9, -, -, -, -, d14, -, -, -, -, d19, d20, d21, d22, -⟩ := hd
  refine ⟨?_, ?_, ?_, ?_, ?_, ?_, ?_, ?_, ap⟩
  · rw [va_up_ne _ _ d3]; exact a1
  · rw [va_up_ne _ _ d9]; exact a2
  · rw [va_up_ne _ _ d14]; exact a3
  · rw [va_up_self, show upd (lnF S) r (nI n) = lnF (uLn S r n) from ?_]
    funext q
    unfold lnF upd
    by_cases e : q = r
    · subst e; simp [sLn, uLn, va_up]
    · simp [e, sLn, uLn, va_up]
  · rw [va_up_ne _ _ d19.symm]; exact a5
  · rw [va_up_ne _ _ d20.symm]; exact a6
  · rw [va_up_ne _ _ d21.symm]; exact a7
  · rw [va_up_ne _ _ d22.symm]; exact a8
theorem Rm.it (h : Rm E S M t w) {r k : Nat} (hr : r < 520) (hk : k < 40) (v : Int32) : Rm E (uRow S r (upd (sIt S r) k v)) M t (va_up w (mI M) (some (eI E 20800 (upd (itF S) (40 * r + k) v)))) := by
  obtain ⟨a1, a2, a3, a4, a5, a6, a7, a8, ap⟩ := h
  have hd := ap
  obtain ⟨-, -, -, d4, -, -, -, -, -, d10, -, -, -, -, d15, -, -, -, d19, -, -, -, d23, d24, d25, -⟩ := hd
  refine ⟨?_, ?_, ?_, ?_, ?_, ?_, ?_, ?_, ap⟩
  · rw [va_up_ne _ _ d4]; exact a1
  · rw [va_up_ne _ _ d10]; exact a2
  · rw [va_up_ne _ _ d15]; exact a3
  · rw [va_up_ne _ _ d19]; exact a4
  · rw [va_up_self, show upd (itF S) (40 * r + k) v = itF (uRow S r (upd (sIt S r) k v)) from ?_]
    funext q
    unfold itF
    by_cases hq : q < 20800
    · rw [if_pos hq]
      by_cases e : q = 40 * r + k
      · subst e
        rw [show (40 * r + k) / 40 = r by omega, show (40 * r + k) % 40 = k by omega]
        simp [upd, sIt, uRow, va_up]
      · by_cases er : q / 40 = r
        · have ek : q % 40 ≠ k := by omega
          simp [upd, e, hq, sIt, uRow, va_up, er, ek]
        · simp [upd, e, hq, sIt, uRow, va_up, er]
    · have e : q ≠ 40 * r + k := by omega
      simp [upd, e, hq]
  · rw [va_up_ne _ _ d23.symm]; exact a6
  · rw [va_up_ne _ _ d24.symm]; exact a7
  · rw [va_up_ne _ _ d25.symm]; exact a8
theorem Rm.cl (h : Rm E S M t w) (r : Nat) (v : Int32) : Rm E (uCl S r v) M t (va_up w (mC M) (some (eI E 520 (upd (sCl S) r v)))) := by
  obtain ⟨a1, a2, a3, a4, a5, a6, a7, a8, ap⟩ := h
  have hd := ap
  obtain ⟨-, -, -, -, d5, -, -, -, -, -, d11, -, -, -, -, d16, -, -, -, d20, -, -, d23, -, -, d26, d27, -⟩ := hd
  refine ⟨?_, ?_, ?_, ?_, ?_, va_up_self _ _ _, ?_, ?_, ap⟩
  · rw [va_up_ne _ _ d5]; exact a1
  · rw [va_up_ne _ _ d11]; exact a2
  · rw [va_up_ne _ _ d16]; exact a3
  · rw [va_up_ne _ _ d20]; exact a4
  · rw [va_up_ne _ _ d23]; exact a5
  · rw [va_up_ne _ _ d26.symm]; exact a7
  · rw [va_up_ne _ _ d27.symm]; exact a8
theorem Rm.nu (h : Rm E S M t w) (r : Nat) (v : Int32) : Rm E (uNu S r v) M t (va_up w (mN M) (some (eI E 520 (upd (sNu S) r v)))) := by
  obtain ⟨a1, a2, a3, a4, a5, a6, a7, a8, ap⟩ := h
  have hd := ap
  obtain ⟨-, -, -, -, -, d6, -, -, -, -, -, d12, -, -, -, -, d17, -, -, -, d21, -, -, d24, -, d26, -, d28⟩ := hd
  refine ⟨?_, ?_, ?_, ?_, ?_, ?_, va_up_self _ _ _, ?_, ap⟩
  · rw [va_up_ne _ _ d6]; exact a1
  · rw [va_up_ne _ _ d12]; exact a2
  · rw [va_up_ne _ _ d17]; exact a3
  · rw [va_up_ne _ _ d21]; exact a4
  · rw [va_up_ne _ _ d24]; exact a5
  · rw [va_up_ne _ _ d26]; exact a6
  · rw [va_up_ne _ _ d28.symm]; exact a8
theorem Rm.th (h : Rm E S M t w) (t' : Nat → Int32) : Rm E S M t' (va_up w (mT M) (some (eI E 40 t'))) := by
  obtain ⟨a1, a2, a3, a4, a5, a6, a7, a8, ap⟩ := h
  have hd := ap
  obtain ⟨-, -, -, -, -, -, d7, -, -, -, -, -, d13, -, -, -, -, d18, -, -, -, d22, -, -, d25, -, d27, d28⟩ := hd
  refine ⟨?_, ?_, ?_, ?_, ?_, ?_, ?_, va_up_self _ _ _, ap⟩
  · rw [va_up_ne _ _ d7]; exact a1
  · rw [va_up_ne _ _ d13]; exact a2
  · rw [va_up_ne _ _ d18]; exact a3
  · rw [va_up_ne _ _ d22]; exact a4
  · rw [va_up_ne _ _ d25]; exact a5
  · rw [va_up_ne _ _ d27]; exact a6
  · rw [va_up_ne _ _ d28]; exact a7
/-- another state that shows the same -/
theorem Rm.same (h : Rm E S M t w) {S' : Sx} (h0 : sCod S' = sCod S) (h1 : sPl S' = sPl S) (h2 : sKd S' = sKd S) (h3 : sLn S' = sLn S) (h4 : ∀ r k, r < 520 → k < 40 → sIt S r k = sIt S' r k) (h5 : sCl S' = sCl S) (h6 : sNu S' = sNu S) (h7 : sNr S' = sNr S) (h8 : sNt S' = sNt S) (h9 : sNl S' = sNl S) : Rm E S' M t w := by
  obtain ⟨a1, a2, a3, a4, a5, a6, a7, a8, ap⟩ := h
  refine ⟨?_, ?_, ?_, ?_, ?_, ?_, ?_, a8, ap⟩
  · rw [show eM S' M = eM S M by simp only [eM]; rw [h0, h7, h8, h9]]; exact a1
  · rw [show plF S' = plF S by unfold plF; rw [h1]]; exact a2
  · rw [h2]; exact a3
  · rw [show lnF S' = lnF S by unfold lnF; rw [h3]]; exact a4
  · rw [← itF_congr h4]; exact a5
  · rw [h5]; exact a6
  · rw [h6]; exact a7
end RM
/-- the end of a call of the reference -/
def PoM (E : En) (M : Md) (o : Int32 × Sx) (r : Option Value) (w' : Wd) : Prop := r = some (.int o.1) ∧ ∃ t', Rm E o.2 M t' w'
theorem PoM.of {E : En} {M : Md} {o : Int32 × Sx} {r0 : Int32} {S0 : Sx} {t' : Nat → Int32} {w' : Wd} (h : o = (r0, S0)) (hR : Rm E S0 M t' w') : PoM E M o (some (.int r0)) w' := by
  subst h
  exact ⟨rfl, t', hR⟩
theorem i64_le {x : Int32} {n : Nat} (hn : n < 2 ^ 31) : x.toInt64 ≤ lN n ↔ x.toInt ≤ (n : Int) := by
  rw [Int64.le_iff_toInt_le, lN_toInt hn, Int32.toInt_toInt64]
theorem i64_ge0 {x : Int32} : (0 : Int64) ≤ x.toInt64 ↔ 0 ≤ x.toInt := by
  rw [Int64.le_iff_toInt_le, Int32.toInt_toInt64]
  rfl
theorem place_iff {p : Int32} : ((0 : Int64) ≤ p.toInt64 ∧ p.toInt64 ≤ 11) ↔ ¬ oP p := by
  rw [i64_ge0, show (11 : Int64) = lN 11 from rfl, i64_le (by decide)]
  unfold oP
  rw [Int32.lt_iff_toInt_lt, Int32.lt_iff_toInt_lt, show (0 : Int32).toInt = 0 by decide, show (12 : Int32).toInt = 12 by decide]
  omega
