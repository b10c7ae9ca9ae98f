/-! the world as a function from addresses to cells; rows that read it, change it, make cells; calls by contract -/
abbrev Wd : Type := Nat → Option va_E
/-- what the tables give at a start: numbers and slots of our kinds of objects, numbers of the three kinds of arrays -/
abbrev En : Type := va_G × ClassId × ClassId × ClassId
abbrev tyE (E : En) : List (ClassId × FieldType) := [(E.2.1, .int), (E.2.2.1, .object "CopyRows$Part"), (E.2.2.2, .object "CopyRows$Row")]
def Hv (E : En) (A : Nat → Prop) (w : Wd) (H : Heap) : Prop := ∃ ws : va_W, va_P E.1 vwCl ws H ∧ va_D A ws ∧ ∀ (a : Nat) (x : va_E), w a = some x → ∃ k : Nat, ws[k]? = some (a, x)
theorem wu_set {w : Wd} {ws : va_W} (hw : ∀ (a : Nat) (x : va_E), w a = some x → ∃ k : Nat, ws[k]? = some (a, x)) {k a : Nat} {x0 x : va_E} (hk : ws[k]? = some (a, x0)) : ∀ (b : Nat) (y : va_E), va_up w a (some x) b = some y → ∃ j : Nat, (ws.set k (a, x))[j]? = some (b, y) := by
  intro b y h
  by_cases hb : b = a
  · subst hb
    rw [va_up_self] at h
    cases h
    exact ⟨k, List.getElem?_set_self (List.getElem?_eq_some_iff.mp hk).1⟩
  · rw [va_up_ne _ _ hb] at h
    obtain ⟨j, hj⟩ := hw b y h
    refine ⟨j, ?_⟩
    have hne : k ≠ j := by
      intro q
      subst q
      have h2 := hj.symm.trans hk
      injection h2 with h3
      injection h3 with h4 h5
      exact hb h4
    rw [List.getElem?_set_ne hne]
    exact hj
theorem wu_push {w : Wd} {ws : va_W} (hw : ∀ (a : Nat) (x : va_E), w a = some x → ∃ k : Nat, ws[k]? = some (a, x)) {a : Nat} {x : va_E} : ∀ (b : Nat) (y : va_E), va_up w a (some x) b = some y → ∃ j : Nat, (ws ++ [(a, x)])[j]? = some (b, y) := by
  intro b y h
  by_cases hb : b = a
  · subst hb
    rw [va_up_self] at h
    cases h
    exact ⟨ws.length, by simp⟩
  · rw [va_up_ne _ _ hb] at h
    obtain ⟨j, hj⟩ := hw b y h
    exact ⟨j, by rw [List.getElem?_append_left (List.getElem?_eq_some_iff.mp hj).1]; exact hj⟩
theorem wu_new {A : Nat → Prop} {w : Wd} {ws : va_W} (hw : ∀ (a : Nat) (x : va_E), w a = some x → ∃ k : Nat, ws[k]? = some (a, x)) {a : Nat} {x : va_E} (hD : va_D A (ws ++ [(a, x)])) : w a = none := by
  cases h : w a with
  | none => rfl
  | some y =>
    obtain ⟨k, hk⟩ := hw a y h
    have hl := (List.getElem?_eq_some_iff.mp hk).1
    have e := hD.1 k ws.length (a, y) (a, x) (by rw [List.getElem?_append_left hl]; exact hk) (by simp) rfl
    omega
theorem Hv.in {E : En} {A : Nat → Prop} {w : Wd} {H : Heap} (h : Hv E A w H) {a : Nat} {x : va_E} (ha : w a = some x) : A a ∧ a < H.size := by
  obtain ⟨ws, hP, hD, hw⟩ := h
  obtain ⟨k, hk⟩ := hw a x ha
  exact ⟨hD.2 k _ hk, (hP k _ hk).lt⟩
/-- fewer cells -/
theorem Hv.less {E : En} {A : Nat → Prop} {w w1 : Wd} {H : Heap} (h : Hv E A w H) (hw1 : ∀ (a : Nat) (x : va_E), w1 a = some x → w a = some x) : Hv E A w1 H := by
  obtain ⟨ws, hP, hD, hw⟩ := h
  exact ⟨ws, hP, hD, fun a x q => hw a x (hw1 a x q)⟩
/-- what the tables say, all that the walks ask beside a method's own words -/
def Tf (E : En) (U : State) : Prop := va_K E.1 vwCl (tyE E) U ∧ va_AO "CopyRows$Part" U ∧ va_AO "CopyRows$Row" U ∧ va_Nw (.methodLinkNest RX1 3 yX0_init "CopyRows") U ∧ va_Nw (.methodLinkNest RX2 3 yX0_init "CopyRows") U ∧ va_Nw (.declares ⟨"CopyRows$Part", "fitsInto", "(I)Z"⟩) U ∧ va_Nw (.declares ⟨"CopyRows$Part", "shown", "()I"⟩) U ∧ va_Nw (.castable RX1 "CopyRows$Part") U ∧ va_Nw (.castable RX2 "CopyRows$Part") U ∧ va_Nw (.castable RX1 "CopyRows$Row") U ∧ va_Nw (.castable RX2 "CopyRows$Thing") U
theorem Tf.warm {E : En} {s U : State} (hW : s.WarmedH U.vm) (h : Tf E s) : Tf E U := by
  obtain ⟨h1, h2, h3, h4, h5, h6, h7, h8, h9, h10, h11⟩ := h
  exact ⟨va_K.moved hW.alike h1, h2.moved hW.alike, h3.moved hW.alike, h4.warmM hW, h5.warmM hW, h6.warmD hW, h7.warmD hW, h8.warmC hW, h9.warmC hW, h10.warmC hW, h11.warmC hW⟩
theorem Tf.same {E : En} {u U : State} (hvm : u.vm = U.vm) (h : Tf E u) : Tf E U := by
  obtain ⟨h1, h2, h3, h4, h5, h6, h7, h8, h9, h10, h11⟩ := h
  have hal : u.vm.Alike U.vm := by rw [hvm]; exact Vm.Alike.refl _
  exact ⟨va_K.moved hal h1, h2.moved hal, h3.moved hal, h4.same rfl hvm, h5.same rfl hvm, h6.same rfl hvm, h7.same rfl hvm, h8.same rfl hvm, h9.same rfl hvm, h10.same rfl hvm, h11.same rfl hvm⟩
def Iv (E : En) (A : Nat → Prop) (w : Wd) (U : State) : Prop := Tf E U ∧ Hv E A w U.heap ∧ ∀ q : Nat, U.heap.size ≤ q → A q
/-- the end of a method: its answer and the world behind it -/
def Qg (Post : Option Value → Wd → Prop) (E : En) (A : Nat → Prop) : Array Value → State → Outcome → State → Prop := fun _ st oc t => (∃ (r : Option Value) (w' : Wd), oc = .returned r ∧ Post r w' ∧ Iv E A w' t) ∧ va_F A st t
/-- a contract -/
def Ct (l : Launch) (y : MethodName) (ws : List Cond) (rm : Room) (E : En) (A : Nat → Prop) (w : Wd) (As : List Value) (Post : Option Value → Wd → Prop) (mc ms : Nat) : Prop := Met l y ws rm (va_Pc As (Iv E A w)) (Qg Post E A) mc ms A
theorem Ct.mono {l : Launch} {y : MethodName} {ws : List Cond} {rm : Room} {E : En} {A : Nat → Prop} {w : Wd} {As : List Value} {Post Post2 : Option Value → Wd → Prop} {mc ms : Nat} (h : Ct l y ws rm E A w As Post mc ms) (hp : ∀ r w', Post r w' → Post2 r w') : Ct l y ws rm E A w As Post2 mc ms := by
  intro p e ha hc hk s m args below hf happ hP _
  obtain ⟨k, o, h1, h2, h3, ⟨⟨r, w', e1, e2, e3⟩, hF⟩, hL⟩ := h p e ha hc hk s m args below hf happ hP trivial
  exact ⟨k, o, h1, h2, h3, ⟨⟨r, w', e1, hp r w' e2, e3⟩, hF⟩, hL⟩
theorem Iv.blind {E : En} {A : Nat → Prop} {w : Wd} {As : List Value} : FrameBlind (va_Pc As (Iv E A w)) := by
  intro a U g mk h
  obtain ⟨h0, h1, h2, h3⟩ := h
  exact ⟨h0, Tf.same (u := U) (U := U.calling g mk a) rfl h1, h2, h3⟩
section WR
variable {p : Program} {l : Launch} {e : Env} {R : Room} {s : State} {m : MethodId} {args : Array Value} {below : List Frame} {meth : Method} {c : Code} {H : Heap} {locs : List Loc} {cells slots : Nat} {Q : State → Prop}
variable {cc : ByteArray} {pc : Nat} {ls : Array Slot} {rest st0 : List Value} {E : En} {A : Nat → Prop} {a : Nat} {w : Wd} {H0 : Heap}
theorem Iv.ready (hT : Tf E s) (hI : Hv E A w H) (hA : ∀ q : Nat, H0.size ≤ q → A q) (hS : va_S A H0 H locs) {As : List Value} : ∀ U : State, U.heap = H → s.WarmedH U.vm → va_Pc As (Iv E A w) As.toArray U := fun U hU hW => ⟨rfl, hT.warm hW, by rw [hU]; exact hI, fun q h => hA q (Nat.le_trans hS.1 (by rw [← hU]; exact h))⟩
theorem wr_get (hexec : p.tables.exec = Jvm.exec) (hb : c.code = cc) {own C : String} {T : u_T} {N ci index : Nat} {Ts : List Cond} (hts : ∀ w ∈ Ts, w.before args s = true) (hin : ∀ w ∈ u_ws C T N, w ∈ Ts) (hown : s.vm.findClass own = some m.cls) (hT : Tf E s) (hI : Hv E A w H) {fs : List Value} (he : w a = some (.inr (ci, fs))) (hc : vwCl[ci]? = some (C, T, N)) (k : Nat) (hk : k < N) (hlink : (Cond.fieldLink own index (T k).1 (T k).2.1 (T k).2.2.1).before args s = true) {v : Value} (hv : fs[k]? = some v) (hdg : decode cc pc = .ok (.getfield index, 3))
    (kk : W p l e R s m args below meth c H locs cells slots Q (F0 m (pc + 3) ls (v :: rest))) : W p l e R s m args below meth c H locs cells slots Q (F0 m pc ls (.ref a :: rest)) := by
  obtain ⟨ws, hP, hD, hw⟩ := hI
  obtain ⟨j, hj⟩ := hw _ _ he
  exact va_get hexec hb hts hin hown hT.1 hP j hj hc k hk hlink (fun _ h => h) hv hdg kk
theorem wr_put (hexec : p.tables.exec = Jvm.exec) (hb : c.code = cc) {own C : String} {T : u_T} {N ci index : Nat} {Ts : List Cond} (hts : ∀ w ∈ Ts, w.before args s = true) (hin : ∀ w ∈ u_ws C T N, w ∈ Ts) (ty0 : Nat → FieldType) (hty : ∀ k, k < N → parseFieldDescriptor (T k).2.2.1 = some (ty0 k)) (hnm : ∀ a, a < N → ∀ b, b < N → a ≠ b → (T a).2.1 ≠ (T b).2.1) (hown : s.vm.findClass own = some m.cls) (hT : Tf E s) (hI : Hv E A w H) (hS : va_S A H0 H locs) {fs : List Value} (he : w a = some (.inr (ci, fs))) (hc : vwCl[ci]? = some (C, T, N)) (k : Nat) (hk : k < N) (hlink : (Cond.fieldLink own index (T k).1 (T k).2.1 (T k).2.2.1).before args s = true) (hfin : (T k).2.2.2 = false) {ty : FieldType} {v : Value} (hd : parseFieldDescriptor (T k).2.2.1 = some ty) (hn : narrow ty v = v) (hfit : fits ty v = true) (hl : k < fs.length) (hdg : decode cc pc = .ok (.putfield index, 3))
    (kk : ∀ (H1 : Heap) (locs1 : List Loc), Hv E A (va_up w a (some (.inr (ci, fs.set k v)))) H1 → va_S A H0 H1 locs1 → W p l e R s m args below meth c H1 locs1 cells slots Q (F0 m (pc + 3) ls rest)) : W p l e R s m args below meth c H locs cells slots Q (F0 m pc ls (v :: .ref a :: rest)) := by
  obtain ⟨ws, hP, hD, hw⟩ := hI
  obtain ⟨j, hj⟩ := hw _ _ he
  exact va_put hexec hb hts hin ty0 hty hnm hown hT.1 hP hD hS j hj hc k hk hlink (fun _ h => h) hfin hd hn hfit hl hdg (fun H1 locs1 hP1 hD1 hS1 => kk H1 locs1 ⟨_, hP1, hD1, wu_set hw hj⟩ hS1)
theorem wr_putF (hexec : p.tables.exec = Jvm.exec) (hb : c.code = cc) {own C : String} {T : u_T} {N ci index : Nat} {Ts : List Cond} (hts : ∀ w ∈ Ts, w.before args s = true) (hin : ∀ w ∈ u_ws C T N, w ∈ Ts) (ty0 : Nat → FieldType) (hty : ∀ k, k < N → parseFieldDescriptor (T k).2.2.1 = some (ty0 k)) (hnm : ∀ a, a < N → ∀ b, b < N → a ≠ b → (T a).2.1 ≠ (T b).2.1) (hown : s.vm.findClass own = some m.cls) (hT : Tf E s) (hI : Hv E A w H) (hS : va_S A H0 H locs) {fs : List Value} (he : w a = some (.inr (ci, fs))) (hc : vwCl[ci]? = some (C, T, N)) (k : Nat) (hk : k < N) (hlink : (Cond.fieldLink own index (T k).1 (T k).2.1 (T k).2.2.1).before args s = true) (hfin : (T k).2.2.2 = true) (hin2 : meth.name = "<init>") (hdecl : (T k).1 = own) {ty : FieldType} {v : Value} (hd : parseFieldDescriptor (T k).2.2.1 = some ty) (hn : narrow ty v = v) (hfit : fits ty v = true) (hl : k < fs.length) (hdg : decode cc pc = .ok (.putfield index, 3))
    (kk : ∀ (H1 : Heap) (locs1 : List Loc), Hv E A (va_up w a (some (.inr (ci, fs.set k v)))) H1 → va_S A H0 H1 locs1 → W p l e R s m args below meth c H1 locs1 cells slots Q (F0 m (pc + 3) ls rest)) : W p l e R s m args below meth c H locs cells slots Q (F0 m pc ls (v :: .ref a :: rest)) := by
  obtain ⟨ws, hP, hD, hw⟩ := hI
  obtain ⟨j, hj⟩ := hw _ _ he
  exact va_putF hexec hb hts hin ty0 hty hnm hown hT.1 hP hD hS j hj hc k hk hlink (fun _ h => h) hfin hin2 hdecl hd hn hfit hl hdg (fun H1 locs1 hP1 hD1 hS1 => kk H1 locs1 ⟨_, hP1, hD1, wu_set hw hj⟩ hS1)
theorem wr_iald (hexec : p.tables.exec = Jvm.exec) (hb : c.code = cc) (hT : Tf E s) (hI : Hv E A w H) {n : Nat} {f : Nat → Int32} (he : w a = some (.inl (E.2.1, n, .inl f))) {i : Int32} (hin : vp_in i n) (hdg : decode cc pc = .ok (.iaload, 1))
    (kk : W p l e R s m args below meth c H locs cells slots Q (F0 m (pc + 1) ls (.int (f i.toNatClampNeg) :: rest))) : W p l e R s m args below meth c H locs cells slots Q (F0 m pc ls (.int i :: .ref a :: rest)) := by
  obtain ⟨ws, hP, hD, hw⟩ := hI
  obtain ⟨j, hj⟩ := hw _ _ he
  exact va_iald hexec hb hT.1 hP j 0 hj rfl hin hdg kk
theorem wr_iast (hexec : p.tables.exec = Jvm.exec) (hb : c.code = cc) (hT : Tf E s) (hI : Hv E A w H) (hS : va_S A H0 H locs) {n : Nat} {f : Nat → Int32} (he : w a = some (.inl (E.2.1, n, .inl f))) {i x : Int32} (hin : vp_in i n) (hdg : decode cc pc = .ok (.iastore, 1))
    (kk : ∀ (H1 : Heap) (locs1 : List Loc), Hv E A (va_up w a (some (.inl (E.2.1, n, .inl (upd f i.toNatClampNeg x))))) H1 → va_S A H0 H1 locs1 → W p l e R s m args below meth c H1 locs1 cells slots Q (F0 m (pc + 1) ls rest)) : W p l e R s m args below meth c H locs cells slots Q (F0 m pc ls (.int x :: .int i :: .ref a :: rest)) := by
  obtain ⟨ws, hP, hD, hw⟩ := hI
  obtain ⟨j, hj⟩ := hw _ _ he
  exact va_iast hexec hb hT.1 hP hD hS j 0 hj rfl hin hdg (fun H1 locs1 hP1 hD1 hS1 => kk H1 locs1 ⟨_, hP1, hD1, wu_set hw hj⟩ hS1)
theorem wr_alen (hexec : p.tables.exec = Jvm.exec) (hb : c.code = cc) (hT : Tf E s) (hI : Hv E A w H) {cA : ClassId} {x : vp_A} (he : w a = some (.inl (cA, x))) (t0 : Nat) {ty : FieldType} (ht : (tyE E)[t0]? = some (cA, ty)) (hdg : decode cc pc = .ok (.arraylength, 1))
    (kk : W p l e R s m args below meth c H locs cells slots Q (F0 m (pc + 1) ls (.int (nI x.1) :: rest))) : W p l e R s m args below meth c H locs cells slots Q (F0 m pc ls (.ref a :: rest)) := by
  obtain ⟨ws, hP, hD, hw⟩ := hI
  obtain ⟨j, hj⟩ := hw _ _ he
  exact va_alen hexec hb hT.1 hP j t0 hj ht (v := nI x.1) rfl hdg kk
theorem wr_aald (hexec : p.tables.exec = Jvm.exec) (hb : c.code = cc) (hT : Tf E s) (hI : Hv E A w H) {cA : ClassId} {n : Nat} {f : Nat → Option Nat} (he : w a = some (.inl (cA, n, .inr (.inr (.inr (.inr f)))))) (t0 : Nat) {C : String} (ht : (tyE E)[t0]? = some (cA, .object C)) {i : Int32} (hin : vp_in i n) (hdg : decode cc pc = .ok (.aaload, 1))
    (kk : W p l e R s m args below meth c H locs cells slots Q (F0 m (pc + 1) ls (va_rf (f i.toNatClampNeg) :: rest))) : W p l e R s m args below meth c H locs cells slots Q (F0 m pc ls (.int i :: .ref a :: rest)) := by
  obtain ⟨ws, hP, hD, hw⟩ := hI
  obtain ⟨j, hj⟩ := hw _ _ he
  exact va_aldq hexec hb hT.1 hP j t0 hj ht hin hdg kk
theorem wr_any (hT : Tf E s) (hI : Hv E A w H) {ci v : Nat} {fs : List Value} {r : vw_C} {C : String} (hv : w v = some (.inr (ci, fs))) (hc : vwCl[ci]? = some r) (hca : va_Nw (.castable r.1 C) s) : va_Any C s H v := by
  obtain ⟨ws, hP, hD, hw⟩ := hI
  obtain ⟨j, hj⟩ := hw _ _ hv
  exact va_rAny hT.1 hP hj hc (fun comp c0 h1 h2 => vb_asgC hca comp c0 h1 h2)
theorem wr_aast (hexec : p.tables.exec = Jvm.exec) (hb : c.code = cc) (hT : Tf E s) (hI : Hv E A w H) (hS : va_S A H0 H locs) {cA : ClassId} {n v : Nat} {f : Nat → Option Nat} (he : w a = some (.inl (cA, n, .inr (.inr (.inr (.inr f)))))) (t0 : Nat) {C : String} (ht : (tyE E)[t0]? = some (cA, .object C)) (hr : va_Any C s H v) {i : Int32} (hin : vp_in i n) (hdg : decode cc pc = .ok (.aastore, 1))
    (kk : ∀ (H1 : Heap) (locs1 : List Loc), Hv E A (va_up w a (some (.inl (cA, n, .inr (.inr (.inr (.inr (va_up f i.toNatClampNeg (some v))))))))) H1 → va_S A H0 H1 locs1 → W p l e R s m args below meth c H1 locs1 cells slots Q (F0 m (pc + 1) ls rest)) : W p l e R s m args below meth c H locs cells slots Q (F0 m pc ls (.ref v :: .int i :: .ref a :: rest)) := by
  obtain ⟨ws, hP, hD, hw⟩ := hI
  obtain ⟨j, hj⟩ := hw _ _ he
  exact va_astqM hexec hb hT.1 hP hD hS j t0 hj ht hr hin hdg (fun H1 locs1 hP1 hD1 hS1 => kk H1 locs1 ⟨_, hP1, hD1, wu_set hw hj⟩ hS1)
theorem wr_aastN (hexec : p.tables.exec = Jvm.exec) (hb : c.code = cc) (hT : Tf E s) (hI : Hv E A w H) (hS : va_S A H0 H locs) {cA : ClassId} {n : Nat} {f : Nat → Option Nat} (he : w a = some (.inl (cA, n, .inr (.inr (.inr (.inr f)))))) (t0 : Nat) {C : String} (ht : (tyE E)[t0]? = some (cA, .object C)) {i : Int32} (hin : vp_in i n) (hdg : decode cc pc = .ok (.aastore, 1))
    (kk : ∀ (H1 : Heap) (locs1 : List Loc), Hv E A (va_up w a (some (.inl (cA, n, .inr (.inr (.inr (.inr (va_up f i.toNatClampNeg none)))))))) H1 → va_S A H0 H1 locs1 → W p l e R s m args below meth c H1 locs1 cells slots Q (F0 m (pc + 1) ls rest)) : W p l e R s m args below meth c H locs cells slots Q (F0 m pc ls (.null :: .int i :: .ref a :: rest)) := by
  obtain ⟨ws, hP, hD, hw⟩ := hI
  obtain ⟨j, hj⟩ := hw _ _ he
  exact va_astqN hexec hb hT.1 hP hD hS j t0 hj ht hin hdg (fun H1 locs1 hP1 hD1 hS1 => kk H1 locs1 ⟨_, hP1, hD1, wu_set hw hj⟩ hS1)
theorem wr_newi (hexec : p.tables.exec = Jvm.exec) (hb : c.code = cc) (harr : (Cond.arrayClass .int).before args s = true) (hT : Tf E s) (hI : Hv E A w H) (hS : va_S A H0 H locs) (hA : ∀ q : Nat, H0.size ≤ q → A q) {n : Int32} {N : Nat} (hn : ¬ n < 0) (hN : n.toNatClampNeg = N) (hbytes : N * 4 ≤ 536870912) (hcells : cells + 1 ≤ R.cells) (hslots : slots + N ≤ R.slots) (hdg : decode cc pc = .ok (.newarray .int, 2))
    (kk : ∀ (q : Nat) (H1 : Heap), w q = none → Hv E A (va_up w q (some (.inl (E.2.1, N, .inl (fun _ => 0))))) H1 → va_S A H0 H1 locs → W p l e R s m args below meth c H1 locs (cells + 1) (slots + N) Q (F0 m (pc + 2) ls (.ref q :: rest))) : W p l e R s m args below meth c H locs cells slots Q (F0 m pc ls (.int n :: rest)) := by
  obtain ⟨ws, hP, hD, hw⟩ := hI
  refine va_newa (ty := .int) (a0 := (N, .inl (fun _ => 0))) hexec hb (atype := .int) harr rfl hT.1 hP hD hS hA (fun cA => by rw [vp_cell_i]; rfl) hn hN hbytes hcells hslots hdg (fun q cA H1 hK1 hP1 hD1 hS1 => ?_)
  have e : cA = E.2.1 := by
    have h1 := va_nm_int (hK1.2 3 (cA, .int) rfl).2
    have h2 := va_nm_int (hT.1.2 0 (E.2.1, .int) rfl).2
    exact Option.some.inj (h1.symm.trans h2)
  subst e
  exact kk q H1 (wu_new hw hD1) ⟨_, hP1, hD1, wu_push hw⟩ hS1
theorem wr_newq (hexec : p.tables.exec = Jvm.exec) (hb : c.code = cc) {own C : String} {index : Nat} (hown : s.vm.findClass own = some m.cls) (hclink : (Cond.classLink own index C).before args s = true) (hover : va_AO C s) (t0 : Nat) {cB : ClassId} (ht : (tyE E)[t0]? = some (cB, .object C)) (hT : Tf E s) (hI : Hv E A w H) (hS : va_S A H0 H locs) (hA : ∀ q : Nat, H0.size ≤ q → A q) {n : Int32} {N : Nat} (hn : ¬ n < 0) (hN : n.toNatClampNeg = N) (hbytes : N * 4 ≤ 536870912) (hcells : cells + 1 ≤ R.cells) (hslots : slots + N ≤ R.slots) (hdg : decode cc pc = .ok (.anewarray index, 3))
    (kk : ∀ (q : Nat) (H1 : Heap), w q = none → Hv E A (va_up w q (some (.inl (cB, N, .inr (.inr (.inr (.inr (fun _ => none)))))))) H1 → va_S A H0 H1 locs → W p l e R s m args below meth c H1 locs (cells + 1) (slots + N) Q (F0 m (pc + 3) ls (.ref q :: rest))) : W p l e R s m args below meth c H locs cells slots Q (F0 m pc ls (.int n :: rest)) := by
  obtain ⟨ws, hP, hD, hw⟩ := hI
  refine va_newq hexec hb hown hclink hover hT.1 hP hD hS hA hn hN hbytes hcells hslots hdg (fun q cA H1 hK1 hP1 hD1 hS1 => ?_)
  have e : cA = cB := by
    obtain ⟨_, _, _, _, _, h1⟩ := (hK1.2 3 (cA, .object C) rfl).2
    obtain ⟨_, _, _, _, _, h2⟩ := (hT.1.2 t0 (cB, .object C) ht).2
    exact Option.some.inj (h1.symm.trans h2)
  subst e
  exact kk q H1 (wu_new hw hD1) ⟨_, hP1, hD1, wu_push hw⟩ hS1
theorem wr_new (hexec : p.tables.exec = Jvm.exec) (hb : c.code = cc) {own C : String} {T : u_T} {N ci index : Nat} {Ts : List Cond} (hts : ∀ w ∈ Ts, w.before args s = true) (hin : ∀ w ∈ u_ws C T N, w ∈ Ts) (ty : Nat → FieldType) (hty : ∀ k, k < N → parseFieldDescriptor (T k).2.2.1 = some (ty k)) (hown : s.vm.findClass own = some m.cls) (hcl : (Cond.classLink own index C).before args s = true) (hinst : (Cond.instantiable C N).before args s = true) (hini : (Cond.initialized C).before args s = true) (hT : Tf E s) (hI : Hv E A w H) (hS : va_S A H0 H locs) (hA : ∀ q : Nat, H0.size ≤ q → A q) (hc : vwCl[ci]? = some (C, T, N)) {fs : List Value} (hfs : ∀ j, j < N → defaultValue (ty j) = vp_V fs j) (hcells : cells + 1 ≤ R.cells) (hslots : slots + N ≤ R.slots) (hdg : decode cc pc = .ok (.new index, 3))
    (kk : ∀ (q : Nat) (H1 : Heap), w q = none → Hv E A (va_up w q (some (.inr (ci, fs)))) H1 → va_S A H0 H1 locs → W p l e R s m args below meth c H1 locs (cells + 1) (slots + N) Q (F0 m (pc + 3) ls (.ref q :: rest))) : W p l e R s m args below meth c H locs cells slots Q (F0 m pc ls rest) := by
  obtain ⟨ws, hP, hD, hw⟩ := hI
  exact va_new hexec hb hts hin ty hty hown hcl hinst hini hT.1 hP hD hS hA hc hfs hcells hslots hdg (fun q H1 hP1 hD1 hS1 => kk q H1 (wu_new hw hD1) ⟨_, hP1, hD1, wu_push hw⟩ hS1)
theorem wr_copyi (hexec : p.tables.exec = Jvm.exec) (hb : c.code = cc) (hml : c.maxLocals = ls.size) {own : String} {index : Nat} (hown : s.vm.findClass own = some m.cls) (hlink : (Cond.methodLink own index arraycopyName).before args s = true) (hnat : (Cond.native arraycopyName).before args s = true) (hstat : (Cond.static arraycopyName).before args s = true) (hini : (Cond.initialized "java/lang/System").before args s = true) (hT : Tf E s) (hI : Hv E A w H) (hS : va_S A H0 H locs) {a0 n0 n1 : Nat} {f g : Nat → Int32} (h0 : w a0 = some (.inl (E.2.1, n0, .inl f))) (h9 : w a = some (.inl (E.2.1, n1, .inl g))) {sp dp n : Int32} (h1 : ¬ sp < 0) (h2 : ¬ dp < 0) (h3 : ¬ n < 0) (h4 : sp.toNatClampNeg + n.toNatClampNeg ≤ n0) (h5 : dp.toNatClampNeg + n.toNatClampNeg ≤ n1) (hframes : 1 ≤ R.frames) (hlocals : (rest.map fun v => v.category).sum + (nativeFrameWords "java/lang/System" "arraycopy" 5 + 11) ≤ R.locals) (hdg : decode cc pc = .ok (.invokestatic index, 3))
    (kk : ∀ (H1 : Heap) (locs1 : List Loc), Hv E A (va_up w a (some (.inl (E.2.1, n1, .inl (va_cpy f g sp.toNatClampNeg dp.toNatClampNeg n.toNatClampNeg))))) H1 → va_S A H0 H1 locs1 → W p l e R s m args below meth c H1 locs1 cells slots Q (F0 m (pc + 3) ls rest)) : W p l e R s m args below meth c H locs cells slots Q (F0 m pc ls (.int n :: .int dp :: .ref a :: .int sp :: .ref a0 :: rest)) := by
  obtain ⟨ws, hP, hD, hw⟩ := hI
  obtain ⟨j0, hj0⟩ := hw _ _ h0
  obtain ⟨j1, hj1⟩ := hw _ _ h9
  exact va_copyi (ty := .int) hexec hb hml hown hlink hnat hstat hini hT.1 hP hD hS j0 j1 0 0 hj0 hj1 rfl rfl rfl h1 h2 h3 h4 h5 (fun _ _ => rfl) hframes hlocals hdg (fun H1 locs1 hP1 hD1 hS1 => kk H1 locs1 ⟨_, hP1, hD1, wu_set hw hj1⟩ hS1)
theorem wr_copyq (hexec : p.tables.exec = Jvm.exec) (hb : c.code = cc) (hml : c.maxLocals = ls.size) {own : String} {index : Nat} (hown : s.vm.findClass own = some m.cls) (hlink : (Cond.methodLink own index arraycopyName).before args s = true) (hnat : (Cond.native arraycopyName).before args s = true) (hstat : (Cond.static arraycopyName).before args s = true) (hini : (Cond.initialized "java/lang/System").before args s = true) (hT : Tf E s) (hI : Hv E A w H) (hS : va_S A H0 H locs) {a0 n0 n1 : Nat} {f g : Nat → Option Nat} (h0 : w a0 = some (.inl (E.2.2.1, n0, .inr (.inr (.inr (.inr f)))))) (h9 : w a = some (.inl (E.2.2.1, n1, .inr (.inr (.inr (.inr g)))))) {sp dp n : Int32} (h1 : ¬ sp < 0) (h2 : ¬ dp < 0) (h3 : ¬ n < 0) (h4 : sp.toNatClampNeg + n.toNatClampNeg ≤ n0) (h5 : dp.toNatClampNeg + n.toNatClampNeg ≤ n1) (hel : ∀ i : Nat, i < n.toNatClampNeg → ∀ y : Nat, f (sp.toNatClampNeg + i) = some y → va_Any "CopyRows$Part" s H y) (hframes : 1 ≤ R.frames) (hlocals : (rest.map fun v => v.category).sum + (nativeFrameWords "java/lang/System" "arraycopy" 5 + 11) ≤ R.locals) (hdg : decode cc pc = .ok (.invokestatic index, 3))
    (kk : ∀ (H1 : Heap) (locs1 : List Loc), Hv E A (va_up w a (some (.inl (E.2.2.1, n1, .inr (.inr (.inr (.inr (va_cpy f g sp.toNatClampNeg dp.toNatClampNeg n.toNatClampNeg)))))))) H1 → va_S A H0 H1 locs1 → W p l e R s m args below meth c H1 locs1 cells slots Q (F0 m (pc + 3) ls rest)) : W p l e R s m args below meth c H locs cells slots Q (F0 m pc ls (.int n :: .int dp :: .ref a :: .int sp :: .ref a0 :: rest)) := by
  obtain ⟨ws, hP, hD, hw⟩ := hI
  obtain ⟨j0, hj0⟩ := hw _ _ h0
  obtain ⟨j1, hj1⟩ := hw _ _ h9
  exact va_copyM hexec hb hml hown hlink hnat hstat hini hT.1 hP hD hS j0 j1 1 1 hj0 hj1 rfl rfl h1 h2 h3 h4 h5 hel hframes hlocals hdg (fun H1 locs1 hP1 hD1 hS1 => kk H1 locs1 ⟨_, hP1, hD1, wu_set hw hj1⟩ hS1)
/-- the receiver of a call -/
theorem wr_recv (hT : Tf E s) (hI : Hv E A w H) {ci : Nat} {fs : List Value} {r : vw_C} (hc : vwCl[ci]? = some r) (he : w a = some (.inr (ci, fs))) : ∃ cell : Cell, H[a]? = some cell ∧ cell.vm.isStatics = false ∧ s.vm.findClass r.1 = some cell.cls := by
  obtain ⟨ws, hP, hD, hw⟩ := hI
  obtain ⟨j, hj⟩ := hw _ _ he
  exact va_recv hT.1 hP hc hj
theorem ca_go {Post : Option Value → Wd → Prop} {mc ms : Nat} {av : Array Value} (hr : va_Run p l e R s m args below meth c H locs cells slots mc ms (F0 m pc ls st0) rest (Qg Post E A av) A) (hS : va_S A H0 H locs)
    (kk : ∀ (r : Option Value) (w' : Wd) (H1 : Heap) (locs1 : List Loc), Post r w' → Hv E A w' H1 → va_S A H0 H1 locs1 → W p l e R s m args below meth c H1 locs1 (cells + mc) (slots + ms) Q (F0 m (pc + 3) ls (r.toList ++ rest))) : W p l e R s m args below meth c H locs cells slots Q (F0 m pc ls st0) := by
  intro T hT X
  obtain ⟨v, st₀, t, T', L, h0, X', hL, e1, e2, ⟨⟨r, w', hv, hp, -, hH, -⟩, hz, hk⟩, st⟩ := hr T hT X
  cases hv
  rw [h0] at hz hk
  obtain ⟨t2, a1, b1⟩ := kk v w' T'.heap (locs ++ L) hp (by rw [e1]; exact hH)
    ⟨Nat.le_trans hS.1 (by rw [e1]; exact hz), fun q h1 h2 => by rw [e1, hk q (Nat.lt_of_lt_of_le h1 hS.1) h2]; exact hS.2.1 q h1 h2, fun q hq => by
      rcases List.mem_append.mp hq with h | h
      · exact hS.2.2 q h
      · exact hL q h⟩ T' rfl X'
  exact ⟨t2, st t2 a1, b1⟩
variable {y : MethodName} {bytes : ByteArray} {maxL nL mc ms n index : Nat} {ret : Option FieldType} {ws : List Cond} {rm : Room} {Ts : List Cond} {own C : String} {As : List Value} {Post : Option Value → Wd → Prop}
theorem ca_S (S : CallFix p m c cc nL s args Ts own) (hM : Ct l y ws rm E A w As Post mc ms) (cw : CallB R s args own index y bytes maxL ret ws rm mc ms n ∧ (Cond.static y).before args s = true) (hT : Tf E s) (hI : Hv E A w H) (hA : ∀ q : Nat, H0.size ≤ q → A q) (hS : va_S A H0 H locs) (hst : st0 = As.reverse ++ rest) (hn : As.length = n) (hsize : ls.size = nL) (hW : (rest.map fun v => v.category).sum ≤ 8) (hdg : decode cc pc = .ok (.invokestatic index, 3)) (hf : cells + mc ≤ R.cells ∧ slots + ms ≤ R.slots)
    (kk : ∀ (r : Option Value) (w' : Wd) (H1 : Heap) (locs1 : List Loc), Post r w' → Hv E A w' H1 → va_S A H0 H1 locs1 → W p l e R s m args below meth c H1 locs1 (cells + mc) (slots + ms) Q (F0 m (pc + 3) ls (r.toList ++ rest))) : W p l e R s m args below meth c H locs cells slots Q (F0 m pc ls st0) :=
  ca_go (va_runS S hM cw ⟨Iv.blind, Iv.ready hT hI hA hS⟩ rfl hn hsize hst (lv_room hW) hdg hf) hS kk
theorem ca_V {b ci : Nat} {fs : List Value} {r0 : vw_C} (S : CallFix p m c cc nL s args Ts own) (hM : Ct l y ws rm E A w (.ref b :: As) Post mc ms) (cw : CallW R s args own r0.1 index y bytes maxL ret ws rm mc ms n) (hT : Tf E s) (hI : Hv E A w H) (hA : ∀ q : Nat, H0.size ≤ q → A q) (hS : va_S A H0 H locs) (hc : vwCl[ci]? = some r0) (he : w b = some (.inr (ci, fs))) (hst : st0 = As.reverse ++ .ref b :: rest) (hn : As.length = n) (hsize : ls.size = nL) (hW : (rest.map fun v => v.category).sum ≤ 8) (hdg : decode cc pc = .ok (.invokevirtual index, 3)) (hf : cells + mc ≤ R.cells ∧ slots + ms ≤ R.slots)
    (kk : ∀ (r : Option Value) (w' : Wd) (H1 : Heap) (locs1 : List Loc), Post r w' → Hv E A w' H1 → va_S A H0 H1 locs1 → W p l e R s m args below meth c H1 locs1 (cells + mc) (slots + ms) Q (F0 m (pc + 3) ls (r.toList ++ rest))) : W p l e R s m args below meth c H locs cells slots Q (F0 m pc ls st0) :=
  ca_go (va_runV S hM cw ⟨Iv.blind, wr_recv hT hI hc he, Iv.ready hT hI hA hS⟩ rfl hn hsize hst (lv_room hW) hdg hf) hS kk
theorem ca_U {x : MethodName} {owner : String} {b ci : Nat} {fs : List Value} {r0 : vw_C} (S : CallFix p m c cc nL s args Ts own) (hM : Ct l y ws rm E A w (.ref b :: As) Post mc ms) (cw : va_CU R s args own r0.1 owner index x y bytes maxL ret ws rm mc ms n) (hT : Tf E s) (hI : Hv E A w H) (hA : ∀ q : Nat, H0.size ≤ q → A q) (hS : va_S A H0 H locs) (hc : vwCl[ci]? = some r0) (he : w b = some (.inr (ci, fs))) (hst : st0 = As.reverse ++ .ref b :: rest) (hn : As.length = n) (hsize : ls.size = nL) (hW : (rest.map fun v => v.category).sum ≤ 8) (hdg : decode cc pc = .ok (.invokevirtual index, 3)) (hf : cells + mc ≤ R.cells ∧ slots + ms ≤ R.slots)
    (kk : ∀ (r : Option Value) (w' : Wd) (H1 : Heap) (locs1 : List Loc), Post r w' → Hv E A w' H1 → va_S A H0 H1 locs1 → W p l e R s m args below meth c H1 locs1 (cells + mc) (slots + ms) Q (F0 m (pc + 3) ls (r.toList ++ rest))) : W p l e R s m args below meth c H locs cells slots Q (F0 m pc ls st0) :=
  ca_go (va_runU S hM cw ⟨Iv.blind, wr_recv hT hI hc he, Iv.ready hT hI hA hS⟩ rfl hn hsize hst (lv_room hW) hdg hf) hS kk
theorem ca_I {b : Nat} (S : CallFix p m c cc nL s args Ts own) (hM : Ct l y ws rm E A w (.ref b :: As) Post mc ms) (cw : CallB R s args own index y bytes maxL none ws rm mc ms n ∧ y.name = "<init>" ∧ (Cond.instanceMethod y).before args s = true) (hT : Tf E s) (hI : Hv E A w H) (hA : ∀ q : Nat, H0.size ≤ q → A q) (hS : va_S A H0 H locs) (hst : st0 = As.reverse ++ .ref b :: rest) (hn : As.length = n) (hsize : ls.size = nL) (hW : (rest.map fun v => v.category).sum ≤ 8) (hdg : decode cc pc = .ok (.invokespecial index, 3)) (hf : cells + mc ≤ R.cells ∧ slots + ms ≤ R.slots)
    (kk : ∀ (r : Option Value) (w' : Wd) (H1 : Heap) (locs1 : List Loc), Post r w' → Hv E A w' H1 → va_S A H0 H1 locs1 → W p l e R s m args below meth c H1 locs1 (cells + mc) (slots + ms) Q (F0 m (pc + 3) ls (r.toList ++ rest))) : W p l e R s m args below meth c H locs cells slots Q (F0 m pc ls st0) :=
  ca_go (va_runI S hM cw ⟨Iv.blind, Iv.ready hT hI hA hS⟩ rfl hn hsize hst (lv_room hW) hdg hf) hS kk
theorem ca_IN {host : String} {b : Nat} (S : CallFix p m c cc nL s args Ts own) (hM : Ct l y ws rm E A w (.ref b :: As) Post mc ms) (cw : va_CN R s args own index y host bytes maxL none ws rm mc ms n ∧ y.name = "<init>" ∧ (Cond.instanceMethod y).before args s = true) (hT : Tf E s) (hI : Hv E A w H) (hA : ∀ q : Nat, H0.size ≤ q → A q) (hS : va_S A H0 H locs) (hst : st0 = As.reverse ++ .ref b :: rest) (hn : As.length = n) (hsize : ls.size = nL) (hW : (rest.map fun v => v.category).sum ≤ 8) (hdg : decode cc pc = .ok (.invokespecial index, 3)) (hf : cells + mc ≤ R.cells ∧ slots + ms ≤ R.slots)
    (kk : ∀ (r : Option Value) (w' : Wd) (H1 : Heap) (locs1 : List Loc), Post r w' → Hv E A w' H1 → va_S A H0 H1 locs1 → W p l e R s m args below meth c H1 locs1 (cells + mc) (slots + ms) Q (F0 m (pc + 3) ls (r.toList ++ rest))) : W p l e R s m args below meth c H locs cells slots Q (F0 m pc ls st0) :=
  ca_go (va_runIN S hM cw ⟨Iv.blind, Iv.ready hT hI hA hS⟩ rfl hn hsize hst (lv_room hW) hdg hf) hS kk
/-- ends -/
theorem re_q {v : Option Value} (hT : Tf E s) (hA : ∀ q : Nat, s.heap.size ≤ q → A q) (hS : va_S A s.heap H locs) (hI : Hv E A w H) (hp : Post v w) {av : Array Value} : ∀ t : State, t.heap = H → s.WarmedH t.vm → Qg Post E A av s (.returned v) t := fun t ht hW =>
  ⟨⟨v, w, rfl, hp, hT.warm hW, by rw [ht]; exact hI, fun q h => hA q (Nat.le_trans hS.1 (by rw [← ht]; exact h))⟩, hS.F ht⟩
theorem re_i {v : Int32} (hexec : p.tables.exec = Jvm.exec) (hb : c.code = cc) (hr : meth.sig.returnType = some .int) (hlocks : meth.locks = false) (hT : Tf E s) (hA : ∀ q : Nat, s.heap.size ≤ q → A q) (hS : va_S A s.heap H locs) (hI : Hv E A w H) (hp : Post (some (.int v)) w) (h1 : cells ≤ mc) (h2 : slots ≤ ms) (hdg : decode cc pc = .ok (.ireturn, 1)) : W p l e R s m args below meth c H locs cells slots (MQ below (Qg Post E A) args s mc ms A) (F0 m pc ls [.int v]) :=
  W.widen h1 h2 (W.iret hexec hb hr (re_q hT hA hS hI hp) hS.2.2 hdg hlocks)
theorem re_z {v : Int32} (hexec : p.tables.exec = Jvm.exec) (hb : c.code = cc) (hr : meth.sig.returnType = some .boolean) (hlocks : meth.locks = false) (hT : Tf E s) (hA : ∀ q : Nat, s.heap.size ≤ q → A q) (hS : va_S A s.heap H locs) (hI : Hv E A w H) (hn : narrow .boolean (.int v) = .int v) (hp : Post (some (.int v)) w) (h1 : cells ≤ mc) (h2 : slots ≤ ms) (hdg : decode cc pc = .ok (.ireturn, 1)) : W p l e R s m args below meth c H locs cells slots (MQ below (Qg Post E A) args s mc ms A) (F0 m pc ls [.int v]) :=
  W.widen h1 h2 (W.zret hexec hb hr hn (re_q hT hA hS hI hp) hS.2.2 hdg hlocks)
theorem re_v (hexec : p.tables.exec = Jvm.exec) (hb : c.code = cc) (hr : meth.sig.returnType = none) (hlocks : meth.locks = false) (hT : Tf E s) (hA : ∀ q : Nat, s.heap.size ≤ q → A q) (hS : va_S A s.heap H locs) (hI : Hv E A w H) (hp : Post none w) (h1 : cells ≤ mc) (h2 : slots ≤ ms) (hdg : decode cc pc = .ok (.return_, 1)) : W p l e R s m args below meth c H locs cells slots (MQ below (Qg Post E A) args s mc ms A) (F0 m pc ls []) :=
  W.widen h1 h2 (W.vret hexec hb hr (re_q hT hA hS hI hp) hS.2.2 hdg hlocks)
theorem re_a {v : Value} {nm : String} (hexec : p.tables.exec = Jvm.exec) (hb : c.code = cc) (hr : meth.sig.returnType = some (.object nm)) (hlocks : meth.locks = false) (hT : Tf E s) (hA : ∀ q : Nat, s.heap.size ≤ q → A q) (hS : va_S A s.heap H locs) (hI : Hv E A w H) (hv : v = .null ∨ ∃ a, v = .ref a) (hp : Post (some v) w) (h1 : cells ≤ mc) (h2 : slots ≤ ms) (hdg : decode cc pc = .ok (.areturn, 1)) : W p l e R s m args below meth c H locs cells slots (MQ below (Qg Post E A) args s mc ms A) (F0 m pc ls [v]) :=
  W.widen h1 h2 (W.aret hexec hb hr (Or.inl ⟨nm, rfl⟩) hv (re_q hT hA hS hI hp) hS.2.2 hdg hlocks)
end WR
