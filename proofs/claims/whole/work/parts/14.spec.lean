/-! what each call answers and does, as functions of the state -/
abbrev xOut : Int32 := -2000000001
/-- no place -/
abbrev oP (p : Int32) : Prop := p < 0 ∨ ¬ p < 12
def pv (S : Sx) (p : Int32) : Int32 := sPl S (ix p)
def kp (S : Sx) (v : Int32) : Int32 := if v = -1 then -1 else kdv S v
def ini (k : Int32) : Nat → Int32 := fun _ => if isN k then 0 else -1
def luv (S : Sx) : Int32 := -1 - nI (sNl S + 1)
/-- no item's number -/
abbrev oI (n : Nat) (k : Int32) : Prop := k < 0 ∨ nI n ≤ k
abbrev kT (kd : Int32) : Prop := kd = 3 ∨ kd = 4 ∨ kd = 5
abbrev rg (n : Nat) (i k : Int32) : Prop := 0 ≤ i.toInt ∧ 0 ≤ k.toInt ∧ i.toInt + k.toInt ≤ (n : Int)
/-- items of a row of kind kf go into one of kind kd at all; item x does -/
abbrev mayT (kd kf : Int32) : Prop := ¬ (kd = 6 ∨ kf = 6) ∧ (kd = kf ∨ ¬ isN kd ∧ ¬ isN kf)
abbrev fitS (S : Sx) (kf x kd : Int32) : Prop := x = -1 ∨ (kf = 2 ∧ kd = 2) ∨ (¬ kf = 2 ∧ fT kd (sCl S (ix x)))
/-- the first of d numbers from t on that is not so -/
def preN (b : Nat → Bool) : Nat → Nat → Nat
  | 0, t => t
  | d + 1, t => if b t then preN b d (t + 1) else t
theorem preN_spec (b : Nat → Bool) : ∀ (d t : Nat), t ≤ preN b d t ∧ preN b d t ≤ t + d ∧ (∀ k, t ≤ k → k < preN b d t → b k = true) ∧ (preN b d t < t + d → b (preN b d t) = false)
  | 0, t => ⟨Nat.le_refl _, Nat.le_refl _, fun k h1 h2 => absurd h2 (Nat.not_lt.mpr h1), fun h => absurd h (Nat.lt_irrefl _)⟩
  | d + 1, t => by
    simp only [preN]
    cases h : b t with
    | false => simp only [Bool.false_eq_true, if_false]; exact ⟨Nat.le_refl _, by omega, fun k h1 h2 => absurd h2 (Nat.not_lt.mpr h1), fun _ => h⟩
    | true =>
      simp only [if_true]
      obtain ⟨h1, h2, h3, h4⟩ := preN_spec b d (t + 1)
      refine ⟨by omega, by omega, fun k g1 g2 => ?_, fun g => h4 (by omega)⟩
      rcases Nat.lt_or_ge t k with q | q
      · exact h3 k q g2
      · rw [show k = t by omega]; exact h
theorem preN_uniq {b : Nat → Bool} {n c : Nat} (h1 : c ≤ n) (h2 : ∀ k, k < c → b k = true) (h3 : c < n → b c = false) : c = preN b n 0 := by
  obtain ⟨g1, g2, g3, g4⟩ := preN_spec b n 0
  rcases Nat.lt_trichotomy c (preN b n 0) with q | q | q
  · have e1 := g3 c (Nat.zero_le _) q
    have e2 := h3 (by omega)
    rw [e1] at e2; cases e2
  · exact q
  · have e1 := h2 _ q
    have e2 := g4 (by omega)
    rw [e1] at e2; cases e2
abbrev fitB (S : Sx) (kf kd : Int32) (f : Nat → Int32) (i : Nat) : Nat → Bool := fun k => decide (fitS S kf (f (i + k)) kd)
def sp_code (S : Sx) : Int32 × Sx := (sCod S, S)
def sp_make (S : Sx) (p k n : Int32) : Int32 × Sx := if oP p ∨ k < 0 ∨ 5 < k ∨ ¬ n ≤ 40 then (xOut, S) else if ¬ 0 ≤ n then (0, uCod S 4) else (n, uCod (uPl (uNew S k (ix n) (ini k)) (ix p) (nI (sNr S))) 0)
def sp_share (S : Sx) (p o : Int32) : Int32 × Sx := if oP p ∨ oP o then (xOut, S) else (kp S (pv S o), uPl S (ix p) (pv S o))
def sp_nothing (S : Sx) (p : Int32) : Int32 × Sx := if oP p then (xOut, S) else (kp S (pv S p), uPl S (ix p) (-1))
def sp_lump (S : Sx) (p : Int32) : Int32 × Sx := if oP p then (xOut, S) else (1, uPl (uLu S) (ix p) (luv S))
def sp_kind (S : Sx) (p : Int32) : Int32 × Sx := if oP p then (xOut, S) else (kp S (pv S p), S)
def sp_length (S : Sx) (p : Int32) : Int32 × Sx := if oP p then (xOut, S) else if pv S p = -1 then (0, uCod S 1) else if kdv S (pv S p) = 6 then (0, uCod S 5) else (nI (lnv S (pv S p)), uCod S 0)
def sp_set (S : Sx) (p k x : Int32) : Int32 × Sx := if oP p then (xOut, S) else if pv S p = -1 then (0, uCod S 1) else if ¬ isN (kdv S (pv S p)) then (0, uCod S 5) else if oI (lnv S (pv S p)) k then (0, uCod S 3) else
  (itv S (pv S p) (ix k), uCod (uRow S (ix (pv S p)) (upd (itv S (pv S p)) (ix k) (if kdv S (pv S p) = 0 then x.toInt8.toInt32 else x))) 0)
def sp_thing (S : Sx) (p k c x : Int32) : Int32 × Sx := if oP p ∨ c < -1 ∨ ¬ c ≤ 2 then (xOut, S) else if pv S p = -1 then (0, uCod S 1) else if ¬ kT (kdv S (pv S p)) then (0, uCod S 5) else if oI (lnv S (pv S p)) k then (0, uCod S 3) else if ¬ (c = -1 ∨ fT (kdv S (pv S p)) c) then (0, uCod S 2) else
  if c = -1 then (1, uCod (uRow S (ix (pv S p)) (upd (itv S (pv S p)) (ix k) (-1))) 0) else (1, uCod (uRow (uTh S c x) (ix (pv S p)) (upd (itv S (pv S p)) (ix k) (nI (sNt S)))) 0)
def sp_hang (S : Sx) (p k o : Int32) : Int32 × Sx := if oP p ∨ oP o then (xOut, S) else if pv S p = -1 then (0, uCod S 1) else if ¬ kdv S (pv S p) = 2 then (0, uCod S 5) else if ¬ (pv S o = -1 ∨ kdv S (pv S o) = 1) then (0, uCod S 5) else if oI (lnv S (pv S p)) k then (0, uCod S 3) else
  (1, uCod (uRow S (ix (pv S p)) (upd (itv S (pv S p)) (ix k) (pv S o))) 0)
def sp_item (S : Sx) (p k : Int32) : Int32 × Sx := if oP p then (xOut, S) else if pv S p = -1 then (0, uCod S 1) else if kdv S (pv S p) = 6 then (0, uCod S 5) else if oI (lnv S (pv S p)) k then (0, uCod S 3) else
  if isN (kdv S (pv S p)) then (itv S (pv S p) (ix k), uCod S 0) else if itv S (pv S p) (ix k) = -1 then (0, uCod S 1) else (if kdv S (pv S p) = 2 then nI (lnv S (itv S (pv S p) (ix k))) else sNu S (ix (itv S (pv S p) (ix k))), uCod S 0)
def sp_classOf (S : Sx) (p k : Int32) : Int32 × Sx := if oP p then (xOut, S) else if pv S p = -1 then (0, uCod S 1) else if ¬ kT (kdv S (pv S p)) then (0, uCod S 5) else if oI (lnv S (pv S p)) k then (0, uCod S 3) else
  (if itv S (pv S p) (ix k) = -1 then -1 else sCl S (ix (itv S (pv S p) (ix k))), uCod S 0)
def mvN (S : Sx) (u v : Int32) (i n : Nat) : Nat := if isN (kdv S v) then n else preN (fitB S (kdv S u) (kdv S v) (itv S u) i) n 0
def sp_move (S : Sx) (x i y j n : Int32) : Int32 × Sx := if oP x ∨ oP y then (xOut, S) else if pv S x = -1 ∨ pv S y = -1 then (0, uCod S 1) else if ¬ mayT (kdv S (pv S y)) (kdv S (pv S x)) then (0, uCod S 2) else if ¬ rg (lnv S (pv S x)) i n ∨ ¬ rg (lnv S (pv S y)) j n then (0, uCod S 3) else
  (nI (mvN S (pv S x) (pv S y) (ix i) (ix n)), uCod (uRow S (ix (pv S y)) (va_cpy (itv S (pv S x)) (itv S (pv S y)) (ix i) (ix j) (mvN S (pv S x) (pv S y) (ix i) (ix n)))) (if mvN S (pv S x) (pv S y) (ix i) (ix n) < ix n then 2 else 0))
def lpS (u v i j : Int32) : Nat → Nat → Sx → Int32 × Sx
  | 0, t, S => (nI t, uCod S 0)
  | d + 1, t, S => if oI (lnv S u) (i + nI t) ∨ oI (lnv S v) (j + nI t) then (nI t, uCod S 3) else if ¬ (isN (kdv S v) ∨ fitS S (kdv S u) (itv S u (ix (i + nI t))) (kdv S v)) then (nI t, uCod S 2) else
    lpS u v i j d (t + 1) (uRow S (ix v) (upd (itv S v) (ix (j + nI t)) (itv S u (ix (i + nI t)))))
def sp_loop (S : Sx) (x i y j n : Int32) : Int32 × Sx := if oP x ∨ oP y then (xOut, S) else if pv S x = -1 ∨ pv S y = -1 then (0, uCod S 1) else if ¬ mayT (kdv S (pv S y)) (kdv S (pv S x)) then (0, uCod S 2) else lpS (pv S x) (pv S y) i j (ix n) 0 S
def sp_copy (S : Sx) (p o : Int32) : Int32 × Sx := if oP p ∨ oP o then (xOut, S) else if pv S o = -1 then (0, uCod S 1) else if kdv S (pv S o) = 6 then (0, uCod S 5) else
  (nI (lnv S (pv S o)), uCod (uPl (uNew S (kdv S (pv S o)) (lnv S (pv S o)) (va_cpy (itv S (pv S o)) (ini (kdv S (pv S o))) 0 0 (lnv S (pv S o)))) (ix p) (nI (sNr S))) 0)
def sp_slice (S : Sx) (p o i n : Int32) : Int32 × Sx := if oP p ∨ oP o then (xOut, S) else if pv S o = -1 then (0, uCod S 1) else if kdv S (pv S o) = 6 then (0, uCod S 5) else if ¬ 0 ≤ n then (0, uCod S 4) else if ¬ rg (lnv S (pv S o)) i n then (0, uCod S 3) else
  (n, uCod (uPl (uNew S (kdv S (pv S o)) (ix n) (va_cpy (itv S (pv S o)) (ini (kdv S (pv S o))) (ix i) 0 (ix n))) (ix p) (nI (sNr S))) 0)
def sp_join (S : Sx) (p a b : Int32) : Int32 × Sx := if oP p ∨ oP a ∨ oP b then (xOut, S) else if pv S a = -1 ∨ pv S b = -1 then (0, uCod S 1) else if kdv S (pv S a) = 6 ∨ kdv S (pv S b) = 6 then (0, uCod S 5) else if ¬ lnv S (pv S a) + lnv S (pv S b) ≤ 40 then (0, uCod S 3) else if ¬ mayT (kdv S (pv S a)) (kdv S (pv S b)) ∨ mvN S (pv S b) (pv S a) 0 (lnv S (pv S b)) < lnv S (pv S b) then (0, uCod S 2) else
  (nI (lnv S (pv S a) + lnv S (pv S b)), uCod (uPl (uNew S (kdv S (pv S a)) (lnv S (pv S a) + lnv S (pv S b)) (va_cpy (itv S (pv S b)) (va_cpy (itv S (pv S a)) (ini (kdv S (pv S a))) 0 0 (lnv S (pv S a))) 0 (lnv S (pv S a)) (lnv S (pv S b)))) (ix p) (nI (sNr S))) 0)
def upS (v q u : Int32) : Nat → Nat → Sx → Int32 × Sx
  | 0, t, S => (nI t, uCod S 0)
  | d + 1, t, S => if oI (lnv S u) (itv S q t) ∨ oI (lnv S v) (itv S q t) then (nI t, uCod S 3) else upS v q u d (t + 1) (uRow S (ix v) (upd (itv S v) (ix (itv S q t)) (itv S u (ix (itv S q t)))))
def sp_update (S : Sx) (p q u : Int32) : Int32 × Sx := if oP p ∨ oP q ∨ oP u then (xOut, S) else if pv S p = -1 ∨ pv S q = -1 ∨ pv S u = -1 then (0, uCod S 1) else if ¬ (kdv S (pv S p) = 1 ∧ kdv S (pv S q) = 1 ∧ kdv S (pv S u) = 1) then (0, uCod S 5) else upS (pv S p) (pv S q) (pv S u) (lnv S (pv S q)) 0 S
def rotI (b : Int32) (n : Nat) : Nat := (b.toInt % (n : Int)).toNat
def rotF (f : Nat → Int32) (n st : Nat) : Nat → Int32 := fun k => if k < n then f ((k + (n - st)) % n) else f k
def sp_rotate (S : Sx) (p b : Int32) : Int32 × Sx := if oP p then (xOut, S) else if pv S p = -1 then (0, uCod S 1) else if kdv S (pv S p) = 6 then (0, uCod S 5) else if lnv S (pv S p) = 0 then (0, uCod S 6) else
  (nI (rotI b (lnv S (pv S p))), uCod (uRow S (ix (pv S p)) (rotF (itv S (pv S p)) (lnv S (pv S p)) (rotI b (lnv S (pv S p))))) 0)
def smT (S : Sx) (f : Nat → Int32) : Nat → Nat → Int32 → Int32 × Sx
  | 0, _, acc => (acc, uCod S 0)
  | d + 1, t, acc => if f t = -1 then (0, uCod S 1) else smT S f d (t + 1) (acc + sumF (itv S (f t)) (lnv S (f t)))
def sp_sum (S : Sx) (p : Int32) : Int32 × Sx := if oP p then (xOut, S) else if pv S p = -1 then (0, uCod S 1) else if ¬ (isN (kdv S (pv S p)) ∨ kdv S (pv S p) = 2) then (0, uCod S 5) else if kdv S (pv S p) = 2 then smT S (itv S (pv S p)) (lnv S (pv S p)) 0 0 else (sumF (itv S (pv S p)) (lnv S (pv S p)), uCod S 0)
def sp_mean (S : Sx) (p : Int32) : Int32 × Sx := if oP p then (xOut, S) else if pv S p = -1 then (0, uCod S 1) else if ¬ isN (kdv S (pv S p)) then (0, uCod S 5) else if lnv S (pv S p) = 0 then (0, uCod S 6) else (sumF (itv S (pv S p)) (lnv S (pv S p)) / nI (lnv S (pv S p)), uCod S 0)
def sp_same (S : Sx) (a b : Int32) : Int32 × Sx := if oP a ∨ oP b then (xOut, S) else (if pv S a = pv S b then 1 else 0, S)
def sp_equal (S : Sx) (a b : Int32) : Int32 × Sx := if oP a ∨ oP b then (xOut, S) else if pv S a = pv S b then (1, S) else if pv S a = -1 ∨ pv S b = -1 ∨ kdv S (pv S a) = 6 then (0, S) else (if kdv S (pv S a) = kdv S (pv S b) ∧ lnv S (pv S a) = lnv S (pv S b) ∧ ∀ k, k < lnv S (pv S a) → itv S (pv S a) k = itv S (pv S b) k then 1 else 0, S)
def sp_compare (S : Sx) (a b : Int32) : Int32 × Sx := if oP a ∨ oP b then (xOut, S) else if pv S a = -1 ∨ pv S b = -1 then (0, uCod S 1) else if ¬ isN (kdv S (pv S a)) ∨ ¬ kdv S (pv S a) = kdv S (pv S b) then (0, uCod S 5) else (cmpF (itv S (pv S a)) (itv S (pv S b)) (lnv S (pv S a)) (lnv S (pv S b)) (lnv S (pv S a)) 0, uCod S 0)
def cntI (f : Nat → Int32) (v : Int32) : Nat → Nat
  | 0 => 0
  | n + 1 => cntI f v n + if f n = v then 1 else 0
abbrev frs (S : Sx) (p : Nat) : Prop := ∀ q, q < p → ¬ sPl S q = sPl S p
def hldF (S : Sx) (v : Int32) : Nat → Nat
  | 0 => 0
  | p + 1 => hldF S v p + (if sPl S p = v then 1 else 0) + (if ¬ sPl S p = -1 ∧ kdv S (sPl S p) = 2 ∧ frs S p then cntI (itv S (sPl S p)) v (lnv S (sPl S p)) else 0)
def sp_held (S : Sx) (p : Int32) : Int32 × Sx := if oP p then (xOut, S) else if pv S p = -1 then (0, S) else (nI (hldF S (pv S p) 12), S)
/-! words for the walks -/
theorem isP_nat {p : Int32} (h : ¬ oP p) : ∃ j : Nat, j < 12 ∧ p = nI j := by
  have h1 : ¬ p < 0 := fun q => h (Or.inl q)
  have h2 : p < 12 := Classical.byContradiction fun q => h (Or.inr q)
  obtain ⟨j, hj, rfl⟩ := nI_of h1
  refine ⟨j, ?_, rfl⟩
  exact (nI_ltI hj (by decide : 12 < 2 ^ 31)).mp h2
theorem oI_nat {n : Nat} {k : Int32} (hn : n ≤ 40) (h : ¬ oI n k) : ∃ j : Nat, j < n ∧ k = nI j := by
  have h1 : ¬ k < 0 := fun q => h (Or.inl q)
  have h2 : ¬ nI n ≤ k := fun q => h (Or.inr q)
  obtain ⟨j, hj, rfl⟩ := nI_of h1
  refine ⟨j, ?_, rfl⟩
  exact Nat.not_le.mp fun q => h2 ((nI_leI (by omega) hj).mpr q)
theorem pv_nI {S : Sx} {j : Nat} (h : j < 12) : pv S (nI j) = sPl S j := by unfold pv; rw [ix_nI (by omega)]
theorem Wf.pl {S : Sx} (hW : Wf S) (D : Ad) (j : Nat) : (sPl S j = -1 ∧ plO D (sPl S j) = none) ∨ (¬ sPl S j = -1 ∧ vO S (sPl S j) ∧ plO D (sPl S j) = some (aR D (sPl S j))) := by
  rcases hW.1 j with h | h
  · exact Or.inl ⟨h, by unfold plO; rw [if_pos h]⟩
  · by_cases e : sPl S j = -1
    · exact Or.inl ⟨e, by unfold plO; rw [if_pos e]⟩
    · exact Or.inr ⟨e, h, by unfold plO; rw [if_neg e]⟩
theorem vL_neg {S : Sx} {v : Int32} (h : vL S v) : v < 0 := by
  rw [Int32.lt_iff_toInt_lt]
  have := h.1
  simp; omega
theorem vO_row {S : Sx} {v : Int32} (h : vO S v) (hk : ¬ kdv S v = 6) : vR S v := by
  rcases h with h | h
  · exact h
  · exact absurd (by unfold kdv; rw [if_pos (vL_neg h)]) hk
theorem Wf.row {S : Sx} (hW : Wf S) {v : Int32} (h : vR S v) : (0 ≤ kdv S v ∧ kdv S v ≤ 5) ∧ lnv S v ≤ 40 ∧ (kdv S v = 2 → ∀ k, itv S v k = -1 ∨ (vR S (itv S v k) ∧ kdv S (itv S v k) = 1)) ∧ (3 ≤ kdv S v → ∀ k, itv S v k = -1 ∨ vT S (itv S v k)) := by
  have h2 := hW.2.1 (ix v) h.2
  have e1 : kdv S v = sKd S (ix v) := by unfold kdv; rw [if_neg h.1]
  have e2 : lnv S v = sLn S (ix v) := by unfold lnv; rw [if_neg h.1]
  have e3 : itv S v = sIt S (ix v) := by unfold itv; rw [if_neg h.1]
  rw [e1, e2, e3]
  refine ⟨h2.1, h2.2.1, fun hk k => ?_, h2.2.2.2⟩
  rcases h2.2.2.1 hk k with q | ⟨q1, q2⟩
  · exact Or.inl q
  · exact Or.inr ⟨q1, by unfold kdv; rw [if_neg q1.1]; exact q2⟩
theorem kd_eq {x : Int32} {n : Int} (h : x.toInt = n) {y : Int32} (hy : y.toInt = n) : x = y := Int32.toInt_inj.mp (h.trans hy.symm)
/-- the kinds, one by one -/
theorem kd_cases {k : Int32} (h0 : 0 ≤ k) (h6 : k ≤ 6) : k = 0 ∨ k = 1 ∨ k = 2 ∨ k = 3 ∨ k = 4 ∨ k = 5 ∨ k = 6 := by
  rw [Int32.le_iff_toInt_le] at h0 h6
  have a : (0 : Int32).toInt = 0 := by decide
  have b : (6 : Int32).toInt = 6 := by decide
  rw [a] at h0
  rw [b] at h6
  have : k.toInt = 0 ∨ k.toInt = 1 ∨ k.toInt = 2 ∨ k.toInt = 3 ∨ k.toInt = 4 ∨ k.toInt = 5 ∨ k.toInt = 6 := by omega
  rcases this with h | h | h | h | h | h | h
  · exact Or.inl (kd_eq h (by decide))
  · exact Or.inr (Or.inl (kd_eq h (by decide)))
  · exact Or.inr (Or.inr (Or.inl (kd_eq h (by decide))))
  · exact Or.inr (Or.inr (Or.inr (Or.inl (kd_eq h (by decide)))))
  · exact Or.inr (Or.inr (Or.inr (Or.inr (Or.inl (kd_eq h (by decide))))))
  · exact Or.inr (Or.inr (Or.inr (Or.inr (Or.inr (Or.inl (kd_eq h (by decide)))))))
  · exact Or.inr (Or.inr (Or.inr (Or.inr (Or.inr (Or.inr (kd_eq h (by decide)))))))
theorem Wf.kd {S : Sx} (hW : Wf S) {v : Int32} (h : vO S v) : 0 ≤ kdv S v ∧ kdv S v ≤ 6 := by
  rcases h with h | h
  · have := (hW.row h).1
    refine ⟨this.1, ?_⟩
    have h5 := this.2
    rw [Int32.le_iff_toInt_le] at h5 ⊢
    have a : (5 : Int32).toInt = 5 := by decide
    have b : (6 : Int32).toInt = 6 := by decide
    rw [a] at h5
    rw [b]
    omega
  · unfold kdv
    rw [if_pos (vL_neg h)]
    decide
theorem Wf.ln {S : Sx} (hW : Wf S) {v : Int32} (h : vO S v) : lnv S v ≤ 40 := by
  rcases h with h | h
  · exact (hW.row h).2.1
  · unfold lnv; rw [if_pos (vL_neg h)]; decide
theorem Rp.num {E : En} {S : Sx} {D : Ad} {w : Wd} (h : Rp E S D w) {v : Int32} (hv : vO S v) (hk : isN (kdv S v)) : w (aN D v) = some (eI E (lnv S v) (itv S v)) := by
  have q := (h.2.2.1 v hv).2.1
  have e1 : nz (kdv S v) (lnv S v) = lnv S v := if_pos hk
  have e2 : nuv S v = itv S v := by unfold nuv; rw [if_pos hk]
  rw [e1, e2] at q
  exact q
theorem Rp.par {E : En} {S : Sx} {D : Ad} {w : Wd} (h : Rp E S D w) {v : Int32} (hv : vO S v) (hk : ¬ isN (kdv S v)) : w (aQ D v) = some (eP E (lnv S v) (fun k => pO D (kdv S v) (itv S v k))) := by
  have q := (h.2.2.1 v hv).2.2
  have e1 : pz (kdv S v) (lnv S v) = lnv S v := if_neg hk
  have e2 : pav S D v = fun k => pO D (kdv S v) (itv S v k) := by unfold pav; rw [if_neg hk]
  rw [e1, e2] at q
  exact q
/-- the end of a call of the class -/
def PoC (E : En) (D : Ad) (o : Int32 × Sx) (r : Option Value) (w' : Wd) : Prop := r = some (.int o.1) ∧ ∃ D' : Ad, aH D' = aH D ∧ Rp E o.2 D' w'
theorem PoC.of {E : En} {D D' : Ad} {o : Int32 × Sx} {r0 : Int32} {S0 : Sx} {w' : Wd} (h : o = (r0, S0)) (hR : Rp E S0 D' w') (hD : aH D' = aH D) : PoC E D o (some (.int r0)) w' := by
  subst h
  exact ⟨rfl, D', hD, hR⟩
/-- masks of kinds -/
def msk (mask : Int32) (K : Int32 → Prop) : Prop := ∀ k : Int32, (k = 0 ∨ k = 1 ∨ k = 2 ∨ k = 3 ∨ k = 4 ∨ k = 5 ∨ k = 6) → ((mask >>> (k &&& 31)) &&& 1 = 0 ↔ ¬ K k)
theorem msk3 : msk 3 isN := by rintro k (rfl | rfl | rfl | rfl | rfl | rfl | rfl) <;> decide
theorem msk7 : msk 7 (fun k => isN k ∨ k = 2) := by rintro k (rfl | rfl | rfl | rfl | rfl | rfl | rfl) <;> decide
theorem msk56 : msk 56 kT := by rintro k (rfl | rfl | rfl | rfl | rfl | rfl | rfl) <;> decide
theorem msk63 : msk 63 (fun k => ¬ k = 6) := by rintro k (rfl | rfl | rfl | rfl | rfl | rfl | rfl) <;> decide
theorem msk4 : msk 4 (fun k => k = 2) := by rintro k (rfl | rfl | rfl | rfl | rfl | rfl | rfl) <;> decide
