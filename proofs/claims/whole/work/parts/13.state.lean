/-! the state, as a value: code, places, rows (how many, kinds, lengths, items), things (how many, sorts, numbers), lumps (how many) -/
abbrev Sx : Type := Int32 × (Nat → Int32) × Nat × (Nat → Int32) × (Nat → Nat) × (Nat → Nat → Int32) × Nat × (Nat → Int32) × (Nat → Int32) × Nat
abbrev sCod (S : Sx) : Int32 := S.1
abbrev sPl (S : Sx) : Nat → Int32 := S.2.1
abbrev sNr (S : Sx) : Nat := S.2.2.1
abbrev sKd (S : Sx) : Nat → Int32 := S.2.2.2.1
abbrev sLn (S : Sx) : Nat → Nat := S.2.2.2.2.1
abbrev sIt (S : Sx) : Nat → Nat → Int32 := S.2.2.2.2.2.1
abbrev sNt (S : Sx) : Nat := S.2.2.2.2.2.2.1
abbrev sCl (S : Sx) : Nat → Int32 := S.2.2.2.2.2.2.2.1
abbrev sNu (S : Sx) : Nat → Int32 := S.2.2.2.2.2.2.2.2.1
abbrev sNl (S : Sx) : Nat := S.2.2.2.2.2.2.2.2.2
abbrev uCod (S : Sx) (x : Int32) : Sx := (x, S.2)
abbrev uPl (S : Sx) (p : Nat) (v : Int32) : Sx := (S.1, upd S.2.1 p v, S.2.2)
abbrev uRow (S : Sx) (r : Nat) (f : Nat → Int32) : Sx := (S.1, S.2.1, S.2.2.1, S.2.2.2.1, S.2.2.2.2.1, va_up S.2.2.2.2.2.1 r f, S.2.2.2.2.2.2)
abbrev uNew (S : Sx) (k : Int32) (n : Nat) (f : Nat → Int32) : Sx := (S.1, S.2.1, S.2.2.1 + 1, upd S.2.2.2.1 S.2.2.1 k, va_up S.2.2.2.2.1 S.2.2.1 n, va_up S.2.2.2.2.2.1 S.2.2.1 f, S.2.2.2.2.2.2)
abbrev uTh (S : Sx) (k x : Int32) : Sx := (S.1, S.2.1, S.2.2.1, S.2.2.2.1, S.2.2.2.2.1, S.2.2.2.2.2.1, S.2.2.2.2.2.2.1 + 1, upd S.2.2.2.2.2.2.2.1 S.2.2.2.2.2.2.1 k, upd S.2.2.2.2.2.2.2.2.1 S.2.2.2.2.2.2.1 x, S.2.2.2.2.2.2.2.2.2)
abbrev uLu (S : Sx) : Sx := (S.1, S.2.1, S.2.2.1, S.2.2.2.1, S.2.2.2.2.1, S.2.2.2.2.2.1, S.2.2.2.2.2.2.1, S.2.2.2.2.2.2.2.1, S.2.2.2.2.2.2.2.2.1, S.2.2.2.2.2.2.2.2.2 + 1)
abbrev ix (x : Int32) : Nat := x.toNatClampNeg
theorem ix_nI {n : Nat} (h : n < 2 ^ 31) : ix (nI n) = n := nI_clamp h
theorem nI_ix {x : Int32} (h : ¬ x < 0) : nI (ix x) = x := by
  obtain ⟨j, hj, rfl⟩ := nI_of h
  rw [ix_nI hj]
/-- a row's number, a lump's, either's, a thing's -/
def vR (S : Sx) (v : Int32) : Prop := ¬ v < 0 ∧ ix v < sNr S
def vL (S : Sx) (v : Int32) : Prop := v.toInt < -1 ∧ -1 - (sNl S : Int) ≤ v.toInt
def vO (S : Sx) (v : Int32) : Prop := vR S v ∨ vL S v
def vT (S : Sx) (v : Int32) : Prop := ¬ v < 0 ∧ ix v < sNt S
def kdv (S : Sx) (v : Int32) : Int32 := if v < 0 then 6 else sKd S (ix v)
def lnv (S : Sx) (v : Int32) : Nat := if v < 0 then 0 else sLn S (ix v)
def itv (S : Sx) (v : Int32) : Nat → Int32 := if v < 0 then fun _ => -1 else sIt S (ix v)
/-- addresses: the object, its places, rows and lumps, their numbers, their parts, things; and what lies at an address -/
abbrev Ad : Type := Nat × Nat × (Int32 → Nat) × (Int32 → Nat) × (Int32 → Nat) × (Int32 → Nat) × (Nat → Nat × Int32)
abbrev aH (D : Ad) : Nat := D.1
abbrev aP (D : Ad) : Nat := D.2.1
abbrev aR (D : Ad) : Int32 → Nat := D.2.2.1
abbrev aN (D : Ad) : Int32 → Nat := D.2.2.2.1
abbrev aQ (D : Ad) : Int32 → Nat := D.2.2.2.2.1
abbrev aT (D : Ad) : Int32 → Nat := D.2.2.2.2.2.1
abbrev aG (D : Ad) : Nat → Nat × Int32 := D.2.2.2.2.2.2
def plO (D : Ad) (v : Int32) : Option Nat := if v = -1 then none else some (aR D v)
def pO (D : Ad) (kd x : Int32) : Option Nat := if x = -1 then none else some (if kd = 2 then aR D x else aT D x)
def nuv (S : Sx) (v : Int32) : Nat → Int32 := if isN (kdv S v) then itv S v else fun _ => 0
def pav (S : Sx) (D : Ad) (v : Int32) : Nat → Option Nat := if isN (kdv S v) then fun _ => none else fun k => pO D (kdv S v) (itv S v k)
def RpO (E : En) (S : Sx) (D : Ad) (w : Wd) (v : Int32) : Prop := w (aR D v) = some (eRow (kdv S v) (nI (lnv S v)) (aN D v) (aQ D v)) ∧ w (aN D v) = some (eI E (nz (kdv S v) (lnv S v)) (nuv S v)) ∧ w (aQ D v) = some (eP E (pz (kdv S v) (lnv S v)) (pav S D v))
/-- the cells hold the state -/
def Rp (E : En) (S : Sx) (D : Ad) (w : Wd) : Prop :=
  w (aH D) = some (.inr (2, [.ref (aP D), .int (sCod S)])) ∧ w (aP D) = some (eR E 12 (fun p => plO D (sPl S p))) ∧ (∀ v, vO S v → RpO E S D w v) ∧ (∀ v, vT S v → w (aT D v) = some (eTh (sCl S (ix v)) (sNu S (ix v)))) ∧
  aG D (aH D) = (4, 0) ∧ aG D (aP D) = (5, 0) ∧ (∀ v, vO S v → aG D (aR D v) = (0, v) ∧ aG D (aN D v) = (1, v) ∧ aG D (aQ D v) = (2, v)) ∧ ∀ v, vT S v → aG D (aT D v) = (3, v)
theorem Rp.sub {E : En} {S : Sx} {D : Ad} {w w' : Wd} (h : Rp E S D w) (hw : ∀ a x, w a = some x → w' a = some x) : Rp E S D w' := by
  obtain ⟨h1, h2, h3, h4, h5⟩ := h
  exact ⟨hw _ _ h1, hw _ _ h2, fun v hv => ⟨hw _ _ (h3 v hv).1, hw _ _ (h3 v hv).2.1, hw _ _ (h3 v hv).2.2⟩, fun v hv => hw _ _ (h4 v hv), h5⟩
theorem tg_ne {D : Ad} {a b : Nat} {x y : Nat × Int32} (ha : aG D a = x) (hb : aG D b = y) (h : x ≠ y) : a ≠ b := fun e => h (by rw [← ha, ← hb, e])
theorem tg1 {i j : Nat} {v u : Int32} (h : i ≠ j) : (i, v) ≠ (j, u) := fun e => h (congrArg Prod.fst e)
theorem tg2 {i : Nat} {v u : Int32} (h : v ≠ u) : (i, v) ≠ (i, u) := fun e => h (congrArg Prod.snd e)
theorem Rp.cod {E : En} {S : Sx} {D : Ad} {w : Wd} (h : Rp E S D w) (x : Int32) : Rp E (uCod S x) D (va_up w (aH D) (some (.inr (2, [.ref (aP D), .int x])))) := by
  obtain ⟨h1, h2, h3, h4, t1, t2, t3, t4⟩ := h
  refine ⟨va_up_self _ _ _, ?_, fun v hv => ?_, fun v hv => ?_, t1, t2, t3, t4⟩
  · rw [va_up_ne _ _ (tg_ne t2 t1 (tg1 (by decide)))]; exact h2
  · obtain ⟨g1, g2, g3⟩ := t3 v hv
    obtain ⟨q1, q2, q3⟩ := h3 v hv
    refine ⟨?_, ?_, ?_⟩
    · rw [va_up_ne _ _ (tg_ne g1 t1 (tg1 (by decide)))]; exact q1
    · rw [va_up_ne _ _ (tg_ne g2 t1 (tg1 (by decide)))]; exact q2
    · rw [va_up_ne _ _ (tg_ne g3 t1 (tg1 (by decide)))]; exact q3
  · rw [va_up_ne _ _ (tg_ne (t4 v hv) t1 (tg1 (by decide)))]; exact h4 v hv
theorem Rp.pl {E : En} {S : Sx} {D : Ad} {w : Wd} (h : Rp E S D w) (p : Nat) (x : Int32) : Rp E (uPl S p x) D (va_up w (aP D) (some (eR E 12 (va_up (fun p => plO D (sPl S p)) p (plO D x))))) := by
  obtain ⟨h1, h2, h3, h4, t1, t2, t3, t4⟩ := h
  refine ⟨?_, ?_, fun v hv => ?_, fun v hv => ?_, t1, t2, t3, t4⟩
  · rw [va_up_ne _ _ (tg_ne t1 t2 (tg1 (by decide)))]; exact h1
  · rw [va_up_self]
    congr 5
    funext q
    by_cases hq : q = p <;> simp [va_up, upd, hq, sPl, uPl]
  · obtain ⟨g1, g2, g3⟩ := t3 v hv
    obtain ⟨q1, q2, q3⟩ := h3 v hv
    refine ⟨?_, ?_, ?_⟩
    · rw [va_up_ne _ _ (tg_ne g1 t2 (tg1 (by decide)))]; exact q1
    · rw [va_up_ne _ _ (tg_ne g2 t2 (tg1 (by decide)))]; exact q2
    · rw [va_up_ne _ _ (tg_ne g3 t2 (tg1 (by decide)))]; exact q3
  · rw [va_up_ne _ _ (tg_ne (t4 v hv) t2 (tg1 (by decide)))]; exact h4 v hv
theorem itv_row {S : Sx} {v u : Int32} {f : Nat → Int32} (hv : ¬ v < 0) : itv (uRow S (ix v) f) u = if u = v then f else itv S u := by
  unfold itv
  by_cases hu : u < 0
  · have : u ≠ v := fun e => hv (e ▸ hu)
    simp [hu, this]
  · by_cases e : u = v
    · subst e; simp [hv, va_up, sIt, uRow]
    · have : ix u ≠ ix v := fun q => e (by rw [← nI_ix hu, ← nI_ix hv, q])
      simp [hu, e, va_up, this, sIt, uRow]
theorem Rp.numbers {E : En} {S : Sx} {D : Ad} {w : Wd} (h : Rp E S D w) {v : Int32} (hv : vR S v) (hk : isN (kdv S v)) (f : Nat → Int32) : Rp E (uRow S (ix v) f) D (va_up w (aN D v) (some (eI E (nz (kdv S v) (lnv S v)) f))) := by
  obtain ⟨h1, h2, h3, h4, t1, t2, t3, t4⟩ := h
  have tv := t3 v (Or.inl hv)
  have ei := fun u => itv_row (S := S) (u := u) (f := f) hv.1
  refine ⟨?_, ?_, fun u hu => ?_, fun u hu => ?_, t1, t2, t3, t4⟩
  · rw [va_up_ne _ _ (tg_ne t1 tv.2.1 (tg1 (by decide)))]; exact h1
  · rw [va_up_ne _ _ (tg_ne t2 tv.2.1 (tg1 (by decide)))]; exact h2
  · obtain ⟨g1, g2, g3⟩ := t3 u hu
    obtain ⟨q1, q2, q3⟩ := h3 u hu
    by_cases e : u = v
    · subst e
      refine ⟨?_, ?_, ?_⟩
      · rw [va_up_ne _ _ (tg_ne g1 tv.2.1 (tg1 (by decide)))]; exact q1
      · rw [va_up_self]
        show some (eI E (nz (kdv S u) (lnv S u)) f) = some (eI E (nz (kdv S u) (lnv S u)) (nuv (uRow S (ix u) f) u))
        have : nuv (uRow S (ix u) f) u = f := by
          unfold nuv
          rw [show kdv (uRow S (ix u) f) u = kdv S u from rfl, if_pos hk, ei u, if_pos rfl]
        rw [this]
      · rw [va_up_ne _ _ (tg_ne g3 tv.2.1 (tg1 (by decide)))]
        rw [q3]
        show some (eP E (pz (kdv S u) (lnv S u)) (pav S D u)) = some (eP E (pz (kdv S u) (lnv S u)) (pav (uRow S (ix u) f) D u))
        have : pav (uRow S (ix u) f) D u = pav S D u := by
          unfold pav
          rw [show kdv (uRow S (ix u) f) u = kdv S u from rfl, if_pos hk, if_pos hk]
        rw [this]
    · have ev : itv (uRow S (ix v) f) u = itv S u := by rw [ei u, if_neg e]
      refine ⟨?_, ?_, ?_⟩
      · rw [va_up_ne _ _ (tg_ne g1 tv.2.1 (tg1 (by decide)))]; exact q1
      · rw [va_up_ne _ _ (tg_ne g2 tv.2.1 (tg2 e)), q2]
        have : nuv (uRow S (ix v) f) u = nuv S u := by unfold nuv; rw [show kdv (uRow S (ix v) f) u = kdv S u from rfl, ev]
        rw [this]; rfl
      · rw [va_up_ne _ _ (tg_ne g3 tv.2.1 (tg1 (by decide))), q3]
        have : pav (uRow S (ix v) f) D u = pav S D u := by unfold pav; rw [show kdv (uRow S (ix v) f) u = kdv S u from rfl, ev]
        rw [this]; rfl
  · rw [va_up_ne _ _ (tg_ne (t4 u hu) tv.2.1 (tg1 (by decide)))]; exact h4 u hu
theorem Rp.parts {E : En} {S : Sx} {D : Ad} {w : Wd} (h : Rp E S D w) {v : Int32} (hv : vR S v) (hk : ¬ isN (kdv S v)) (f : Nat → Int32) {g : Nat → Option Nat} (hg : g = fun k => pO D (kdv S v) (f k)) : Rp E (uRow S (ix v) f) D (va_up w (aQ D v) (some (eP E (pz (kdv S v) (lnv S v)) g))) := by
  obtain ⟨h1, h2, h3, h4, t1, t2, t3, t4⟩ := h
  have tv := t3 v (Or.inl hv)
  have ei := fun u => itv_row (S := S) (u := u) (f := f) hv.1
  refine ⟨?_, ?_, fun u hu => ?_, fun u hu => ?_, t1, t2, t3, t4⟩
  · rw [va_up_ne _ _ (tg_ne t1 tv.2.2 (tg1 (by decide)))]; exact h1
  · rw [va_up_ne _ _ (tg_ne t2 tv.2.2 (tg1 (by decide)))]; exact h2
  · obtain ⟨g1, g2, g3⟩ := t3 u hu
    obtain ⟨q1, q2, q3⟩ := h3 u hu
    by_cases e : u = v
    · subst e
      refine ⟨?_, ?_, ?_⟩
      · rw [va_up_ne _ _ (tg_ne g1 tv.2.2 (tg1 (by decide)))]; exact q1
      · rw [va_up_ne _ _ (tg_ne g2 tv.2.2 (tg1 (by decide))), q2]
        have : nuv (uRow S (ix u) f) u = nuv S u := by
          unfold nuv
          rw [show kdv (uRow S (ix u) f) u = kdv S u from rfl, if_neg hk, if_neg hk]
        rw [this]; rfl
      · rw [va_up_self]
        show some (eP E (pz (kdv S u) (lnv S u)) g) = some (eP E (pz (kdv S u) (lnv S u)) (pav (uRow S (ix u) f) D u))
        have : pav (uRow S (ix u) f) D u = g := by
          unfold pav
          rw [show kdv (uRow S (ix u) f) u = kdv S u from rfl, if_neg hk, ei u, if_pos rfl, hg]
        rw [this]
    · have ev : itv (uRow S (ix v) f) u = itv S u := by rw [ei u, if_neg e]
      refine ⟨?_, ?_, ?_⟩
      · rw [va_up_ne _ _ (tg_ne g1 tv.2.2 (tg1 (by decide)))]; exact q1
      · rw [va_up_ne _ _ (tg_ne g2 tv.2.2 (tg1 (by decide))), q2]
        have : nuv (uRow S (ix v) f) u = nuv S u := by unfold nuv; rw [show kdv (uRow S (ix v) f) u = kdv S u from rfl, ev]
        rw [this]; rfl
      · rw [va_up_ne _ _ (tg_ne g3 tv.2.2 (tg2 e)), q3]
        have : pav (uRow S (ix v) f) D u = pav S D u := by unfold pav; rw [show kdv (uRow S (ix v) f) u = kdv S u from rfl, ev]
        rw [this]; rfl
  · rw [va_up_ne _ _ (tg_ne (t4 u hu) tv.2.2 (tg1 (by decide)))]; exact h4 u hu
/-- what is well formed: places hold what is there, items of objects too -/
def Wf (S : Sx) : Prop := (∀ p, sPl S p = -1 ∨ vO S (sPl S p)) ∧ (∀ r, r < sNr S → (0 ≤ sKd S r ∧ sKd S r ≤ 5) ∧ sLn S r ≤ 40 ∧ (sKd S r = 2 → ∀ k, sIt S r k = -1 ∨ (vR S (sIt S r k) ∧ sKd S (ix (sIt S r k)) = 1)) ∧ (3 ≤ sKd S r → ∀ k, sIt S r k = -1 ∨ vT S (sIt S r k))) ∧ (∀ t, t < sNt S → ¬ sCl S t = -1) ∧ sNr S ≤ 512 ∧ sNt S ≤ 512 ∧ sNl S ≤ 512
/-- a world with more objects: rows and lumps -/
def adR (D : Ad) (v : Int32) (q na qa : Nat) : Ad := (D.1, D.2.1, fun u => if u = v then q else aR D u, fun u => if u = v then na else aN D u, fun u => if u = v then qa else aQ D u, aT D, fun a => if a = q then (0, v) else if a = na then (1, v) else if a = qa then (2, v) else aG D a)
theorem Rp.grow {E : En} {S S' : Sx} {D : Ad} {w w' : Wd} {v : Int32} {q na qa : Nat} {kd : Int32} {n : Nat} {f : Nat → Int32} {f1 : Nat → Int32} {g1 : Nat → Option Nat} (h : Rp E S D w) (hW : Wf S) (hN : NewRow E w w' q na qa kd n (nz kd n) f1 (pz kd n) g1)
    (hv : ¬ vO S v) (hv1 : v ≠ -1) (hO : ∀ u, vO S' u → u = v ∨ vO S u) (hk : kdv S' v = kd) (hl : lnv S' v = n) (hi : itv S' v = f)
    (hke : ∀ u, vO S u → kdv S' u = kdv S u ∧ lnv S' u = lnv S u ∧ itv S' u = itv S u) (hc : sCod S' = sCod S) (hp : sPl S' = sPl S) (ht : sNt S' = sNt S) (hcl : sCl S' = sCl S) (hnu : sNu S' = sNu S)
    (hf1 : f1 = if isN kd then f else fun _ => 0) (hg1 : g1 = if isN kd then fun _ => none else fun k => pO D kd (f k)) (hfi : kd = 2 → ∀ k, f k ≠ v) : Rp E S' (adR D v q na qa) w' := by
  obtain ⟨h1, h2, h3, h4, t1, t2, t3, t4⟩ := h
  have kp : ∀ {a : Nat} {x : va_E}, w a = some x → w' a = some x := fun ha => hN.keeps ha
  have hN0 := hN
  obtain ⟨n1, n2, n3, n4, n5, n6, n7, n8, n9, n10⟩ := hN
  have gk : ∀ {a : Nat} {x : va_E}, w a = some x → aG (adR D v q na qa) a = aG D a := by
    intro a x ha
    show (if a = q then _ else if a = na then _ else if a = qa then _ else _) = _
    rw [if_neg (nw_ne ha n1), if_neg (nw_ne ha n2), if_neg (nw_ne ha n3)]
  have rk : ∀ u, u ≠ v → aR (adR D v q na qa) u = aR D u ∧ aN (adR D v q na qa) u = aN D u ∧ aQ (adR D v q na qa) u = aQ D u := fun u hu => ⟨if_neg hu, if_neg hu, if_neg hu⟩
  have rv : aR (adR D v q na qa) v = q ∧ aN (adR D v q na qa) v = na ∧ aQ (adR D v q na qa) v = qa := ⟨if_pos rfl, if_pos rfl, if_pos rfl⟩
  have vT' : ∀ u, vT S' u → vT S u := fun u hu => ⟨hu.1, by rw [← ht]; exact hu.2⟩
  have pOe : ∀ (k x : Int32), (k = 2 → x ≠ v) → pO (adR D v q na qa) k x = pO D k x := by
    intro k x hx
    unfold pO
    by_cases e : k = 2
    · rw [if_pos e, if_pos e, (rk x (hx e)).1]
    · rw [if_neg e, if_neg e]; rfl
  refine ⟨?_, ?_, fun u hu => ?_, fun u hu => ?_, ?_, ?_, fun u hu => ?_, fun u hu => ?_⟩
  · rw [hc]; exact kp h1
  · have e : (fun p => plO (adR D v q na qa) (sPl S' p)) = fun p => plO D (sPl S p) := by
      funext p
      rw [hp]
      unfold plO
      rcases hW.1 p with e | e
      · rw [if_pos e, if_pos e]
      · rw [(rk _ (fun q => hv (q ▸ e))).1]
    rw [e]
    exact kp h2
  · by_cases e : u = v
    · subst e
      rw [RpO, rv.1, rv.2.1, rv.2.2, hk, hl]
      refine ⟨n7, ?_, ?_⟩
      · rw [n8, show nuv S' u = f1 by unfold nuv; rw [hk, hi, hf1]]
      · rw [n9, show pav S' (adR D u q na qa) u = g1 from ?_]
        unfold pav
        rw [hk, hi, hg1]
        by_cases ek : isN kd
        · rw [if_pos ek, if_pos ek]
        · rw [if_neg ek, if_neg ek]
          funext k
          exact pOe kd (f k) (fun e => hfi e k)
    · have hu0 : vO S u := (hO u hu).resolve_left e
      obtain ⟨q1, q2, q3⟩ := h3 u hu0
      obtain ⟨e1, e2, e3⟩ := hke u hu0
      obtain ⟨r1, r2, r3⟩ := rk u e
      rw [RpO, r1, r2, r3, e1, e2]
      refine ⟨kp q1, ?_, ?_⟩
      · rw [show nuv S' u = nuv S u by unfold nuv; rw [e1, e3]]
        exact kp q2
      · rw [show pav S' (adR D v q na qa) u = pav S D u from ?_]
        · exact kp q3
        · unfold pav
          rw [e1, e3]
          by_cases ek : isN (kdv S u)
          · rw [if_pos ek, if_pos ek]
          · rw [if_neg ek, if_neg ek]
            funext k
            apply pOe
            intro e2
            rcases hu0 with hr | hr
            · have hkd : sKd S (ix u) = 2 := by
                have := e2
                unfold kdv at this
                rwa [if_neg hr.1] at this
              have hi2 : itv S u = sIt S (ix u) := by unfold itv; rw [if_neg hr.1]
              rw [hi2]
              rcases (hW.2.1 (ix u) hr.2).2.2.1 hkd k with e4 | e4
              · rw [e4]; exact hv1.symm
              · intro q; exact hv (Or.inl (q ▸ e4.1))
            · have hneg : u < 0 := by
                rw [Int32.lt_iff_toInt_lt]
                have := hr.1
                simp; omega
              have hi2 : itv S u k = -1 := by unfold itv; rw [if_pos hneg]
              rw [hi2]; exact hv1.symm
  · rw [hcl, hnu]; exact kp (h4 u (vT' u hu))
  · rw [show aH (adR D v q na qa) = aH D from rfl, gk h1]; exact t1
  · rw [show aP (adR D v q na qa) = aP D from rfl, gk h2]; exact t2
  · by_cases e : u = v
    · subst e
      rw [rv.1, rv.2.1, rv.2.2]
      refine ⟨if_pos rfl, ?_, ?_⟩
      · show (if na = q then _ else if na = na then _ else _) = _
        rw [if_neg n4.symm, if_pos rfl]
      · show (if qa = q then _ else if qa = na then _ else if qa = qa then _ else _) = _
        rw [if_neg n5.symm, if_neg n6.symm, if_pos rfl]
    · have hu0 : vO S u := (hO u hu).resolve_left e
      obtain ⟨q1, q2, q3⟩ := h3 u hu0
      obtain ⟨r1, r2, r3⟩ := rk u e
      rw [r1, r2, r3, gk q1, gk q2, gk q3]
      exact t3 u hu0
  · rw [show aT (adR D v q na qa) = aT D from rfl, gk (h4 u (vT' u hu))]; exact t4 u (vT' u hu)
/-- and with one thing more -/
def adT (D : Ad) (v : Int32) (q : Nat) : Ad := (D.1, D.2.1, aR D, aN D, aQ D, fun u => if u = v then q else aT D u, fun a => if a = q then (3, v) else aG D a)
theorem Rp.growT {E : En} {S : Sx} {D : Ad} {w w' : Wd} {q : Nat} {k x : Int32} (h : Rp E S D w) (hW : Wf S) (hq : w q = none) (hq1 : w' q = some (eTh k x)) (hw : ∀ a, a ≠ q → w' a = w a) : Rp E (uTh S k x) (adT D (nI (sNt S)) q) w' := by
  obtain ⟨h1, h2, h3, h4, t1, t2, t3, t4⟩ := h
  have hb : sNt S < 2 ^ 31 := Nat.lt_of_le_of_lt hW.2.2.2.2.1 (by decide)
  have kp : ∀ {a : Nat} {x : va_E}, w a = some x → w' a = some x := fun {a x} ha => by rw [hw a (nw_ne ha hq)]; exact ha
  have gk : ∀ {a : Nat} {x : va_E}, w a = some x → aG (adT D (nI (sNt S)) q) a = aG D a := fun {a x} ha => if_neg (nw_ne ha hq)
  have vT' : ∀ u, vT (uTh S k x) u → u = nI (sNt S) ∨ vT S u := by
    intro u hu
    by_cases e : ix u = sNt S
    · exact Or.inl (by rw [← e, nI_ix hu.1])
    · exact Or.inr ⟨hu.1, by have := hu.2; show ix u < sNt S; have h9 : ix u < sNt S + 1 := this; omega⟩
  have tk : ∀ u, u ≠ nI (sNt S) → aT (adT D (nI (sNt S)) q) u = aT D u := fun u hu => if_neg hu
  have notv : ¬ vT S (nI (sNt S)) := fun e => by have := e.2; rw [ix_nI hb] at this; omega
  have pOe : ∀ (k x : Int32), (k ≠ 2 → x ≠ nI (sNt S)) → pO (adT D (nI (sNt S)) q) k x = pO D k x := by
    intro k x hx
    unfold pO
    by_cases e : k = 2
    · rw [if_pos e, if_pos e]; rfl
    · rw [if_neg e, if_neg e, tk x (hx e)]
  refine ⟨kp h1, kp h2, fun u hu => ?_, fun u hu => ?_, (gk h1).trans t1, (gk h2).trans t2, fun u hu => ?_, fun u hu => ?_⟩
  · obtain ⟨q1, q2, q3⟩ := h3 u hu
    refine ⟨kp q1, kp q2, ?_⟩
    have e : pav (uTh S k x) (adT D (nI (sNt S)) q) u = pav S D u := by
      unfold pav
      rw [show kdv (uTh S k x) u = kdv S u from rfl, show itv (uTh S k x) u = itv S u from rfl]
      by_cases ek : isN (kdv S u)
      · rw [if_pos ek, if_pos ek]
      · rw [if_neg ek, if_neg ek]
        funext j
        apply pOe
        intro e2
        have hn1 : (-1 : Int32) ≠ nI (sNt S) := fun e => by
          have h9 : ¬ nI (sNt S) < 0 := nI_pos hb
          rw [← e] at h9
          exact h9 (by decide)
        rcases hu with hr | hr
        · have hi2 : itv S u = sIt S (ix u) := by unfold itv; rw [if_neg hr.1]
          have hkd : kdv S u = sKd S (ix u) := by unfold kdv; rw [if_neg hr.1]
          rw [hi2]
          have hw2 := hW.2.1 (ix u) hr.2
          have h3le : 3 ≤ sKd S (ix u) := by
            rw [hkd] at ek e2
            have a1 := hw2.1.1
            rw [Int32.le_iff_toInt_le] at a1 ⊢
            have b0 : sKd S (ix u) ≠ 0 := fun q => ek (Or.inl q)
            have b1 : sKd S (ix u) ≠ 1 := fun q => ek (Or.inr q)
            have c0 : (sKd S (ix u)).toInt ≠ 0 := fun q => b0 (Int32.toInt_inj.mp (q.trans (by decide)))
            have c1 : (sKd S (ix u)).toInt ≠ 1 := fun q => b1 (Int32.toInt_inj.mp (q.trans (by decide)))
            have c2 : (sKd S (ix u)).toInt ≠ 2 := fun q => e2 (Int32.toInt_inj.mp (q.trans (by decide)))
            simp at a1 ⊢
            omega
          rcases hw2.2.2.2 h3le j with e4 | e4
          · rw [e4]; exact hn1
          · intro q; exact notv (q ▸ e4)
        · have hneg : u < 0 := by
            rw [Int32.lt_iff_toInt_lt]
            have := hr.1
            simp; omega
          have hi2 : itv S u j = -1 := by unfold itv; rw [if_pos hneg]
          rw [hi2]; exact hn1
    show w' (aQ D u) = some (eP E (pz (kdv S u) (lnv S u)) (pav (uTh S k x) (adT D (nI (sNt S)) q) u))
    rw [e]
    exact kp q3
  · rcases vT' u hu with e | hu0
    · subst e
      rw [show aT (adT D (nI (sNt S)) q) (nI (sNt S)) = q from if_pos rfl, hq1, ix_nI hb]
      simp [upd, sCl, sNu, uTh, sNt]
    · have hne : u ≠ nI (sNt S) := fun e => notv (e ▸ hu0)
      rw [tk u hne]
      have hix : ix u ≠ sNt S := fun e => hne (by rw [← e, nI_ix hu.1])
      have := kp (h4 u hu0)
      rw [this]
      have hix : ¬ ix u = S.2.2.2.2.2.2.1 := hix
      simp [upd, hix, sCl, sNu, uTh]
  · obtain ⟨q1, q2, q3⟩ := h3 u hu
    exact ⟨(gk q1).trans (t3 u hu).1, (gk q2).trans (t3 u hu).2.1, (gk q3).trans (t3 u hu).2.2⟩
  · rcases vT' u hu with e | hu0
    · subst e
      rw [show aT (adT D (nI (sNt S)) q) (nI (sNt S)) = q from if_pos rfl]
      exact if_pos rfl
    · have hne : u ≠ nI (sNt S) := fun e => notv (e ▸ hu0)
      rw [tk u hne, gk (h4 u hu0)]; exact t4 u hu0
