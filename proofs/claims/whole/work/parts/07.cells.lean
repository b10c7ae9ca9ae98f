/-! the cells' forms, and pure words on them -/
abbrev eRow (kd ln : Int32) (na qa : Nat) : va_E := .inr (0, [.int kd, .int ln, .ref na, .ref qa])
abbrev eTh (c n : Int32) : va_E := .inr (1, [.int c, .int n])
abbrev eI (E : En) (n : Nat) (f : Nat → Int32) : va_E := .inl (E.2.1, n, .inl f)
abbrev eP (E : En) (n : Nat) (f : Nat → Option Nat) : va_E := .inl (E.2.2.1, n, .inr (.inr (.inr (.inr f))))
abbrev eR (E : En) (n : Nat) (f : Nat → Option Nat) : va_E := .inl (E.2.2.2, n, .inr (.inr (.inr (.inr f))))
abbrev isN (kd : Int32) : Prop := kd = 0 ∨ kd = 1
/-- a thing of this sort goes into a row of that kind -/
abbrev fT (kd c : Int32) : Prop := kd = 3 ∨ kd = 4 ∧ c = 1 ∨ kd = 5 ∧ c = 2
/-- an item of a row of objects: nothing, a thing or a row -/
def okW (w : Wd) (o : Option Nat) : Prop := ∀ b, o = some b → (∃ c n, w b = some (eTh c n)) ∨ ∃ k l x y, w b = some (eRow k l x y)
def fitW (w : Wd) (kd : Int32) (o : Option Nat) : Prop := ∀ b, o = some b → (∃ c n, w b = some (eTh c n) ∧ fT kd c) ∨ ∃ k l x y, w b = some (eRow k l x y) ∧ kd = 2
theorem fitW_none {w : Wd} {kd : Int32} : fitW w kd none := fun b h => by cases h
theorem fitW_th {w : Wd} {kd c n : Int32} {b : Nat} (h : w b = some (eTh c n)) : fitW w kd (some b) ↔ fT kd c := by
  constructor
  · intro hf
    rcases hf b rfl with ⟨c', n', h1, h2⟩ | ⟨k, l, x, y, h1, -⟩
    · rw [h] at h1
      injection h1 with h1
      injection h1 with h1
      injection h1 with _ h1
      injection h1 with h1 _
      injection h1 with h1
      rw [h1]; exact h2
    · rw [h] at h1
      injection h1 with h1
      injection h1 with h1
      injection h1 with h1
      cases h1
  · intro hf b' e
    cases e
    exact Or.inl ⟨c, n, h, hf⟩
theorem fitW_row {w : Wd} {kd k l : Int32} {x y b : Nat} (h : w b = some (eRow k l x y)) : fitW w kd (some b) ↔ kd = 2 := by
  constructor
  · intro hf
    rcases hf b rfl with ⟨c', n', h1, h2⟩ | ⟨k, l, x, y, h1, h2⟩
    · rw [h] at h1
      injection h1 with h1
      injection h1 with h1
      injection h1 with h1
      cases h1
    · exact h2
  · intro hf b' e
    cases e
    exact Or.inr ⟨k, l, x, y, h, hf⟩
theorem nw_ne {w : Wd} {a q : Nat} {x : va_E} (h : w a = some x) (hq : w q = none) : a ≠ q := fun e => by rw [e, hq] at h; cases h
theorem nw_in {w : Wd} {a q : Nat} {x y : va_E} (h : w a = some x) (hq : w q = none) : va_up w q (some y) a = some x := by rw [va_up_ne _ _ (nw_ne h hq)]; exact h
/-- sums and counts of a row's first items -/
def sumF (f : Nat → Int32) : Nat → Int32
  | 0 => 0
  | n + 1 => sumF f n + f n
def cntF (g : Nat → Option Nat) (b : Nat) : Nat → Nat
  | 0 => 0
  | n + 1 => cntF g b n + if g n = some b then 1 else 0
theorem cntF_le (g : Nat → Option Nat) (b : Nat) : ∀ n, cntF g b n ≤ n
  | 0 => Nat.le_refl _
  | n + 1 => by
    have := cntF_le g b n
    simp only [cntF]
    split <;> omega
/-- which of two rows of numbers is less, from item t on -/
def cmpF (f g : Nat → Int32) (z z' : Nat) : Nat → Nat → Int32
  | 0, _ => if z = z' then 0 else if z < z' then -1 else 1
  | d + 1, t => if t < z ∧ t < z' then (if f t = g t then cmpF f g z z' d (t + 1) else if f t < g t then -1 else 1) else if z = z' then 0 else if z < z' then -1 else 1
section LP
variable {p : Program} {l : Launch} {e : Env} {R : Room} {s : State} {m : MethodId} {args : Array Value} {below : List Frame} {meth : Method} {c : Code} {cells slots : Nat} {Q : State → Prop} {pc : Nat}
/-- a loop, by a measure that falls -/
theorem lp_w {ι : Type} (μ : ι → Nat) (I : ι → Heap → List Loc → Array Slot → Prop)
    (step : ∀ (i : ι) (H : Heap) (locs : List Loc) (ls : Array Slot), I i H locs ls → (∀ (i' : ι) (H' : Heap) (locs' : List Loc) (ls' : Array Slot), I i' H' locs' ls' → μ i' < μ i → W p l e R s m args below meth c H' locs' cells slots Q (F0 m pc ls' [])) → W p l e R s m args below meth c H locs cells slots Q (F0 m pc ls []))
    (i : ι) (H : Heap) (locs : List Loc) (ls : Array Slot) (h : I i H locs ls) : W p l e R s m args below meth c H locs cells slots Q (F0 m pc ls []) := by
  have key : ∀ (d : Nat) (i : ι) (H : Heap) (locs : List Loc) (ls : Array Slot), μ i < d → I i H locs ls → W p l e R s m args below meth c H locs cells slots Q (F0 m pc ls []) := by
    intro d
    induction d with
    | zero => intro i H locs ls h; exact absurd h (Nat.not_lt_zero _)
    | succ d ih =>
      intro i H locs ls h hI
      exact step i H locs ls hI (fun i' H' locs' ls' hI' hlt => ih i' H' locs' ls' (by omega) hI')
  exact key (μ i + 1) i H locs ls (Nat.lt_succ_self _) h
end LP
