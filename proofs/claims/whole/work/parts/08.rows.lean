/-! rows with natural numbers for indexes -/
abbrev nz (kd : Int32) (n : Nat) : Nat := if isN kd then n else 0
abbrev pz (kd : Int32) (n : Nat) : Nat := if isN kd then 0 else n
section WN
variable {p : Program} {l : Launch} {e : Env} {R : Room} {s : State} {m : MethodId} {args : Array Value} {below : List Frame} {meth : Method} {c : Code} {H : Heap} {locs : List Loc} {cells slots : Nat} {Q : State → Prop}
variable {cc : ByteArray} {pc : Nat} {ls : Array Slot} {rest : List Value} {E : En} {A : Nat → Prop} {a : Nat} {w : Wd} {H0 : Heap}
theorem wr_ialdN (hexec : p.tables.exec = Jvm.exec) (hb : c.code = cc) (hT : Tf E s) (hI : Hv E A w H) {n t : Nat} {f : Nat → Int32} (he : w a = some (.inl (E.2.1, n, .inl f))) (ht : t < n) (hn : n < 2 ^ 31) (hdg : decode cc pc = .ok (.iaload, 1))
    (kk : W p l e R s m args below meth c H locs cells slots Q (F0 m (pc + 1) ls (.int (f t) :: rest))) : W p l e R s m args below meth c H locs cells slots Q (F0 m pc ls (.int (nI t) :: .ref a :: rest)) := by
  refine wr_iald hexec hb hT hI he (vp_in_nI ht hn) hdg ?_
  rw [nI_clamp (by omega)]
  exact kk
theorem wr_iastN (hexec : p.tables.exec = Jvm.exec) (hb : c.code = cc) (hT : Tf E s) (hI : Hv E A w H) (hS : va_S A H0 H locs) {n t : Nat} {f : Nat → Int32} {x : Int32} (he : w a = some (.inl (E.2.1, n, .inl f))) (ht : t < n) (hn : n < 2 ^ 31) (hdg : decode cc pc = .ok (.iastore, 1))
    (kk : ∀ (H1 : Heap) (locs1 : List Loc), Hv E A (va_up w a (some (.inl (E.2.1, n, .inl (upd f t x))))) H1 → va_S A H0 H1 locs1 → W p l e R s m args below meth c H1 locs1 cells slots Q (F0 m (pc + 1) ls rest)) : W p l e R s m args below meth c H locs cells slots Q (F0 m pc ls (.int x :: .int (nI t) :: .ref a :: rest)) := by
  refine wr_iast hexec hb hT hI hS he (vp_in_nI ht hn) hdg (fun H1 locs1 h1 h2 => ?_)
  rw [nI_clamp (by omega)] at h1
  exact kk H1 locs1 h1 h2
theorem wr_aaldN (hexec : p.tables.exec = Jvm.exec) (hb : c.code = cc) (hT : Tf E s) (hI : Hv E A w H) {cA : ClassId} {n t : Nat} {f : Nat → Option Nat} (he : w a = some (.inl (cA, n, .inr (.inr (.inr (.inr f)))))) (t0 : Nat) {C : String} (hty : (tyE E)[t0]? = some (cA, .object C)) (ht : t < n) (hn : n < 2 ^ 31) (hdg : decode cc pc = .ok (.aaload, 1))
    (kk : W p l e R s m args below meth c H locs cells slots Q (F0 m (pc + 1) ls (va_rf (f t) :: rest))) : W p l e R s m args below meth c H locs cells slots Q (F0 m pc ls (.int (nI t) :: .ref a :: rest)) := by
  refine wr_aald hexec hb hT hI he t0 hty (vp_in_nI ht hn) hdg ?_
  rw [nI_clamp (by omega)]
  exact kk
theorem wr_aastV (hexec : p.tables.exec = Jvm.exec) (hb : c.code = cc) (hT : Tf E s) (hI : Hv E A w H) (hS : va_S A H0 H locs) {cA : ClassId} {n t : Nat} {o : Option Nat} {f : Nat → Option Nat} (he : w a = some (.inl (cA, n, .inr (.inr (.inr (.inr f)))))) (t0 : Nat) {C : String} (hty : (tyE E)[t0]? = some (cA, .object C)) (hr : ∀ v, o = some v → va_Any C s H v) (ht : t < n) (hn : n < 2 ^ 31) (hdg : decode cc pc = .ok (.aastore, 1))
    (kk : ∀ (H1 : Heap) (locs1 : List Loc), Hv E A (va_up w a (some (.inl (cA, n, .inr (.inr (.inr (.inr (va_up f t o)))))))) H1 → va_S A H0 H1 locs1 → W p l e R s m args below meth c H1 locs1 cells slots Q (F0 m (pc + 1) ls rest)) : W p l e R s m args below meth c H locs cells slots Q (F0 m pc ls (va_rf o :: .int (nI t) :: .ref a :: rest)) := by
  cases o with
  | none =>
    refine wr_aastN hexec hb hT hI hS he t0 hty (vp_in_nI ht hn) hdg (fun H1 locs1 h1 h2 => ?_)
    rw [nI_clamp (by omega)] at h1
    exact kk H1 locs1 h1 h2
  | some v =>
    refine wr_aast hexec hb hT hI hS he t0 hty (hr v rfl) (vp_in_nI ht hn) hdg (fun H1 locs1 h1 h2 => ?_)
    rw [nI_clamp (by omega)] at h1
    exact kk H1 locs1 h1 h2
theorem wr_copyiN (hexec : p.tables.exec = Jvm.exec) (hb : c.code = cc) (hml : c.maxLocals = ls.size) {own : String} {index : Nat} (hown : s.vm.findClass own = some m.cls) (hlink : (Cond.methodLink own index arraycopyName).before args s = true) (hnat : (Cond.native arraycopyName).before args s = true) (hstat : (Cond.static arraycopyName).before args s = true) (hini : (Cond.initialized "java/lang/System").before args s = true) (hT : Tf E s) (hI : Hv E A w H) (hS : va_S A H0 H locs) {a0 n0 n1 : Nat} {f g : Nat → Int32} (h0 : w a0 = some (.inl (E.2.1, n0, .inl f))) (h9 : w a = some (.inl (E.2.1, n1, .inl g))) {i j n : Nat} (hz0 : n0 < 2 ^ 31) (hz1 : n1 < 2 ^ 31) (h4 : i + n ≤ n0) (h5 : j + n ≤ n1) (hframes : 1 ≤ R.frames) (hlocals : (rest.map fun v => v.category).sum + (nativeFrameWords "java/lang/System" "arraycopy" 5 + 11) ≤ R.locals) (hdg : decode cc pc = .ok (.invokestatic index, 3))
    (kk : ∀ (H1 : Heap) (locs1 : List Loc), Hv E A (va_up w a (some (.inl (E.2.1, n1, .inl (va_cpy f g i j n))))) H1 → va_S A H0 H1 locs1 → W p l e R s m args below meth c H1 locs1 cells slots Q (F0 m (pc + 3) ls rest)) : W p l e R s m args below meth c H locs cells slots Q (F0 m pc ls (.int (nI n) :: .int (nI j) :: .ref a :: .int (nI i) :: .ref a0 :: rest)) := by
  have e1 := nI_clamp (n := i) (by omega)
  have e2 := nI_clamp (n := j) (by omega)
  have e3 := nI_clamp (n := n) (by omega)
  refine wr_copyi hexec hb hml hown hlink hnat hstat hini hT hI hS h0 h9 (nI_pos (by omega)) (nI_pos (by omega)) (nI_pos (by omega)) (by rw [e1, e3]; exact h4) (by rw [e2, e3]; exact h5) hframes hlocals hdg (fun H1 locs1 q1 q2 => ?_)
  rw [e1, e2, e3] at q1
  exact kk H1 locs1 q1 q2
theorem wr_copyqN (hexec : p.tables.exec = Jvm.exec) (hb : c.code = cc) (hml : c.maxLocals = ls.size) {own : String} {index : Nat} (hown : s.vm.findClass own = some m.cls) (hlink : (Cond.methodLink own index arraycopyName).before args s = true) (hnat : (Cond.native arraycopyName).before args s = true) (hstat : (Cond.static arraycopyName).before args s = true) (hini : (Cond.initialized "java/lang/System").before args s = true) (hT : Tf E s) (hI : Hv E A w H) (hS : va_S A H0 H locs) {a0 n0 n1 : Nat} {f g : Nat → Option Nat} (h0 : w a0 = some (.inl (E.2.2.1, n0, .inr (.inr (.inr (.inr f)))))) (h9 : w a = some (.inl (E.2.2.1, n1, .inr (.inr (.inr (.inr g)))))) {i j n : Nat} (hz0 : n0 < 2 ^ 31) (hz1 : n1 < 2 ^ 31) (h4 : i + n ≤ n0) (h5 : j + n ≤ n1) (hel : ∀ k : Nat, k < n → okW w (f (i + k))) (hframes : 1 ≤ R.frames) (hlocals : (rest.map fun v => v.category).sum + (nativeFrameWords "java/lang/System" "arraycopy" 5 + 11) ≤ R.locals) (hdg : decode cc pc = .ok (.invokestatic index, 3))
    (kk : ∀ (H1 : Heap) (locs1 : List Loc), Hv E A (va_up w a (some (.inl (E.2.2.1, n1, .inr (.inr (.inr (.inr (va_cpy f g i j n)))))))) H1 → va_S A H0 H1 locs1 → W p l e R s m args below meth c H1 locs1 cells slots Q (F0 m (pc + 3) ls rest)) : W p l e R s m args below meth c H locs cells slots Q (F0 m pc ls (.int (nI n) :: .int (nI j) :: .ref a :: .int (nI i) :: .ref a0 :: rest)) := by
  have e1 := nI_clamp (n := i) (by omega)
  have e2 := nI_clamp (n := j) (by omega)
  have e3 := nI_clamp (n := n) (by omega)
  refine wr_copyq hexec hb hml hown hlink hnat hstat hini hT hI hS h0 h9 (nI_pos (by omega)) (nI_pos (by omega)) (nI_pos (by omega)) (by rw [e1, e3]; exact h4) (by rw [e2, e3]; exact h5) (fun k hk y hy => ?_) hframes hlocals hdg (fun H1 locs1 q1 q2 => ?_)
  · rw [e3] at hk
    rw [e1] at hy
    rcases hel k hk y hy with ⟨c1, c2, h⟩ | ⟨c1, c2, c3, c4, h⟩
    · exact wr_any hT hI h (r := (RX2, TX2, 2)) rfl hT.2.2.2.2.2.2.2.2.1
    · exact wr_any hT hI h (r := (RX1, TX1, 4)) rfl hT.2.2.2.2.2.2.2.1
  · rw [e1, e2, e3] at q1
    exact kk H1 locs1 q1 q2
end WN
